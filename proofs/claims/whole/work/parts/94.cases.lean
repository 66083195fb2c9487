/-! the law: its cases -/
theorem hd_X7_row : kHd yX7_row 2 := by decide +kernel
theorem kw_X7_row : ∀ w ∈ k5V RL 13 yX7_row cX7_row 3 (some .int), w ∈ TB := tb_ins (by decide +kernel)
theorem hd_X8_row : kHd yX8_row 2 := by decide +kernel
theorem kw_X8_row : ∀ w ∈ k5V RL 17 yX8_row cX8_row 4 (some .int), w ∈ TB := tb_ins (by decide +kernel)
theorem hd_X7_lay : kHd yX7_lay 3 := by decide +kernel
theorem kw_X7_lay : ∀ w ∈ k5V RL 18 yX7_lay cX7_lay 7 (some .int), w ∈ TB := tb_ins (by decide +kernel)
theorem hd_X8_lay : kHd yX8_lay 3 := by decide +kernel
theorem kw_X8_lay : ∀ w ∈ k5V RL 22 yX8_lay cX8_lay 5 (some .int), w ∈ TB := tb_ins (by decide +kernel)
theorem hd_X7_at : kHd yX7_at 2 := by decide +kernel
theorem kw_X7_at : ∀ w ∈ k5V RL 23 yX7_at cX7_at 5 (some .int), w ∈ TB := tb_ins (by decide +kernel)
theorem hd_X8_at : kHd yX8_at 2 := by decide +kernel
theorem kw_X8_at : ∀ w ∈ k5V RL 26 yX8_at cX8_at 3 (some .int), w ∈ TB := tb_ins (by decide +kernel)
theorem hd_X7_tear : kHd yX7_tear 1 := by decide +kernel
theorem kw_X7_tear : ∀ w ∈ k5V RL 27 yX7_tear cX7_tear 3 (some .int), w ∈ TB := tb_ins (by decide +kernel)
theorem hd_X8_tear : kHd yX8_tear 1 := by decide +kernel
theorem kw_X8_tear : ∀ w ∈ k5V RL 31 yX8_tear cX8_tear 2 (some .int), w ∈ TB := tb_ins (by decide +kernel)
theorem hd_X7_copy : kHd yX7_copy 5 := by decide +kernel
theorem kw_X7_copy : ∀ w ∈ k5V RL 32 yX7_copy cX7_copy 8 (some .int), w ∈ TB := tb_ins (by decide +kernel)
theorem hd_X8_copy : kHd yX8_copy 5 := by decide +kernel
theorem kw_X8_copy : ∀ w ∈ k5V RL 36 yX8_copy cX8_copy 8 (some .int), w ∈ TB := tb_ins (by decide +kernel)
theorem hd_X7_mean : kHd yX7_mean 1 := by decide +kernel
theorem kw_X7_mean : ∀ w ∈ k5V RL 37 yX7_mean cX7_mean 6 (some .int), w ∈ TB := tb_ins (by decide +kernel)
theorem hd_X8_mean : kHd yX8_mean 1 := by decide +kernel
theorem kw_X8_mean : ∀ w ∈ k5V RL 40 yX8_mean cX8_mean 5 (some .int), w ∈ TB := tb_ins (by decide +kernel)
theorem hd_X7_text : kHd yX7_text 2 := by decide +kernel
theorem kw_X7_text : ∀ w ∈ k5V RL 41 yX7_text cX7_text 3 (some .int), w ∈ TB := tb_ins (by decide +kernel)
theorem hd_X8_text : kHd yX8_text 2 := by decide +kernel
theorem kw_X8_text : ∀ w ∈ k5V RL 44 yX8_text cX8_text 4 (some .int), w ∈ TB := tb_ins (by decide +kernel)
theorem hd_X7_put : kHd yX7_put 3 := by decide +kernel
theorem kw_X7_put : ∀ w ∈ k5V RL 45 yX7_put cX7_put 7 (some .int), w ∈ TB := tb_ins (by decide +kernel)
theorem hd_X8_put : kHd yX8_put 3 := by decide +kernel
theorem kw_X8_put : ∀ w ∈ k5V RL 48 yX8_put cX8_put 5 (some .int), w ∈ TB := tb_ins (by decide +kernel)
theorem hd_X7_fault : kHd yX7_fault 1 := by decide +kernel
theorem kw_X7_fault : ∀ w ∈ k5V RL 49 yX7_fault cX7_fault 3 (some .int), w ∈ TB := tb_ins (by decide +kernel)
theorem hd_X8_fault : kHd yX8_fault 1 := by decide +kernel
theorem kw_X8_fault : ∀ w ∈ k5V RL 52 yX8_fault cX8_fault 2 (some .int), w ∈ TB := tb_ins (by decide +kernel)
theorem hd_X7_nave : kHd yX7_nave 1 := by decide +kernel
theorem kw_X7_nave : ∀ w ∈ k5V RL 53 yX7_nave cX7_nave 4 (some .int), w ∈ TB := tb_ins (by decide +kernel)
theorem hd_X8_nave : kHd yX8_nave 1 := by decide +kernel
theorem kw_X8_nave : ∀ w ∈ k5V RL 56 yX8_nave cX8_nave 3 (some .int), w ∈ TB := tb_ins (by decide +kernel)
theorem hd_X7_pole : kHd yX7_pole 2 := by decide +kernel
theorem kw_X7_pole : ∀ w ∈ k5V RL 57 yX7_pole cX7_pole 3 (some .int), w ∈ TB := tb_ins (by decide +kernel)
theorem hd_X8_pole : kHd yX8_pole 2 := by decide +kernel
theorem kw_X8_pole : ∀ w ∈ k5V RL 60 yX8_pole cX8_pole 3 (some .int), w ∈ TB := tb_ins (by decide +kernel)
theorem hd_X7_one : kHd yX7_one 2 := by decide +kernel
theorem kw_X7_one : ∀ w ∈ k5V RL 61 yX7_one cX7_one 3 (some .int), w ∈ TB := tb_ins (by decide +kernel)
theorem hd_X8_one : kHd yX8_one 2 := by decide +kernel
theorem kw_X8_one : ∀ w ∈ k5V RL 64 yX8_one cX8_one 3 (some .int), w ∈ TB := tb_ins (by decide +kernel)
theorem hd_X7_mark : kHd yX7_mark 2 := by decide +kernel
theorem kw_X7_mark : ∀ w ∈ k5V RL 65 yX7_mark cX7_mark 4 (some .int), w ∈ TB := tb_ins (by decide +kernel)
theorem hd_X8_mark : kHd yX8_mark 2 := by decide +kernel
theorem kw_X8_mark : ∀ w ∈ k5V RL 68 yX8_mark cX8_mark 5 (some .int), w ∈ TB := tb_ins (by decide +kernel)
theorem hd_X7_bears : kHd yX7_bears 2 := by decide +kernel
theorem kw_X7_bears : ∀ w ∈ k5V RL 69 yX7_bears cX7_bears 3 (some .int), w ∈ TB := tb_ins (by decide +kernel)
theorem hd_X8_bears : kHd yX8_bears 2 := by decide +kernel
theorem kw_X8_bears : ∀ w ∈ k5V RL 72 yX8_bears cX8_bears 3 (some .int), w ∈ TB := tb_ins (by decide +kernel)
theorem hd_X7_sit : kHd yX7_sit 2 := by decide +kernel
theorem kw_X7_sit : ∀ w ∈ k5V RL 73 yX7_sit cX7_sit 3 (some .int), w ∈ TB := tb_ins (by decide +kernel)
theorem hd_X8_sit : kHd yX8_sit 2 := by decide +kernel
theorem kw_X8_sit : ∀ w ∈ k5V RL 76 yX8_sit cX8_sit 3 (some .int), w ∈ TB := tb_ins (by decide +kernel)
theorem hd_X7_down : kHd yX7_down 1 := by decide +kernel
theorem kw_X7_down : ∀ w ∈ k5V RL 77 yX7_down cX7_down 2 (some .int), w ∈ TB := tb_ins (by decide +kernel)
theorem hd_X8_down : kHd yX8_down 1 := by decide +kernel
theorem kw_X8_down : ∀ w ∈ k5V RL 80 yX8_down cX8_down 3 (some .int), w ∈ TB := tb_ins (by decide +kernel)
theorem hd_X7_lace : kHd yX7_lace 1 := by decide +kernel
theorem kw_X7_lace : ∀ w ∈ k5V RL 81 yX7_lace cX7_lace 2 (some .int), w ∈ TB := tb_ins (by decide +kernel)
theorem hd_X8_lace : kHd yX8_lace 1 := by decide +kernel
theorem kw_X8_lace : ∀ w ∈ k5V RL 84 yX8_lace cX8_lace 3 (some .int), w ∈ TB := tb_ins (by decide +kernel)
theorem hd_X7_stone : kHd yX7_stone 0 := by decide +kernel
theorem kw_X7_stone : ∀ w ∈ k5V RL 85 yX7_stone cX7_stone 1 (some .int), w ∈ TB := tb_ins (by decide +kernel)
theorem hd_X8_stone : kHd yX8_stone 0 := by decide +kernel
theorem kw_X8_stone : ∀ w ∈ k5V RL 89 yX8_stone cX8_stone 2 (some .int), w ∈ TB := tb_ins (by decide +kernel)
theorem hd_X7_year : kHd yX7_year 0 := by decide +kernel
theorem kw_X7_year : ∀ w ∈ k5V RL 90 yX7_year cX7_year 1 (some .int), w ∈ TB := tb_ins (by decide +kernel)
theorem hd_X8_year : kHd yX8_year 0 := by decide +kernel
theorem kw_X8_year : ∀ w ∈ k5V RL 93 yX8_year cX8_year 2 (some .int), w ∈ TB := tb_ins (by decide +kernel)
theorem hd_X7_undo : kHd yX7_undo 1 := by decide +kernel
theorem kw_X7_undo : ∀ w ∈ k5V RL 94 yX7_undo cX7_undo 3 (some .int), w ∈ TB := tb_ins (by decide +kernel)
theorem hd_X8_undo : kHd yX8_undo 1 := by decide +kernel
theorem kw_X8_undo : ∀ w ∈ k5V RL 97 yX8_undo cX8_undo 3 (some .int), w ∈ TB := tb_ins (by decide +kernel)
theorem hd_X7_keep : kHd yX7_keep 1 := by decide +kernel
theorem kw_X7_keep : ∀ w ∈ k5V RL 98 yX7_keep cX7_keep 3 (some .int), w ∈ TB := tb_ins (by decide +kernel)
theorem hd_X8_keep : kHd yX8_keep 1 := by decide +kernel
theorem kw_X8_keep : ∀ w ∈ k5V RL 101 yX8_keep cX8_keep 2 (some .int), w ∈ TB := tb_ins (by decide +kernel)
theorem hd_X7_on : kHd yX7_on 1 := by decide +kernel
theorem kw_X7_on : ∀ w ∈ k5V RL 102 yX7_on cX7_on 3 (some .int), w ∈ TB := tb_ins (by decide +kernel)
theorem hd_X8_on : kHd yX8_on 1 := by decide +kernel
theorem kw_X8_on : ∀ w ∈ k5V RL 105 yX8_on cX8_on 2 (some .int), w ∈ TB := tb_ins (by decide +kernel)
theorem hd_X7_holds : kHd yX7_holds 0 := by decide +kernel
theorem kw_X7_holds : ∀ w ∈ k5V RL 106 yX7_holds cX7_holds 3 (some .int), w ∈ TB := tb_ins (by decide +kernel)
theorem hd_X8_holds : kHd yX8_holds 0 := by decide +kernel
theorem kw_X8_holds : ∀ w ∈ k5V RL 109 yX8_holds cX8_holds 5 (some .int), w ∈ TB := tb_ins (by decide +kernel)
theorem hd_X7_gives : kHd yX7_gives 1 := by decide +kernel
theorem kw_X7_gives : ∀ w ∈ k5V RL 110 yX7_gives cX7_gives 5 (some .int), w ∈ TB := tb_ins (by decide +kernel)
theorem hd_X8_gives : kHd yX8_gives 1 := by decide +kernel
theorem kw_X8_gives : ∀ w ∈ k5V RL 113 yX8_gives cX8_gives 3 (some .int), w ∈ TB := tb_ins (by decide +kernel)
theorem hd_X7_later : kHd yX7_later 1 := by decide +kernel
theorem kw_X7_later : ∀ w ∈ k5V RL 114 yX7_later cX7_later 3 (some .int), w ∈ TB := tb_ins (by decide +kernel)
theorem hd_X8_later : kHd yX8_later 1 := by decide +kernel
theorem kw_X8_later : ∀ w ∈ k5V RL 117 yX8_later cX8_later 4 (some .int), w ∈ TB := tb_ins (by decide +kernel)
theorem hd_X7_best : kHd yX7_best 1 := by decide +kernel
theorem kw_X7_best : ∀ w ∈ k5V RL 118 yX7_best cX7_best 3 (some .int), w ∈ TB := tb_ins (by decide +kernel)
theorem hd_X8_best : kHd yX8_best 1 := by decide +kernel
theorem kw_X8_best : ∀ w ∈ k5V RL 121 yX8_best cX8_best 4 (some .int), w ∈ TB := tb_ins (by decide +kernel)
theorem hd_X7_fewest : kHd yX7_fewest 0 := by decide +kernel
theorem kw_X7_fewest : ∀ w ∈ k5V RL 122 yX7_fewest cX7_fewest 1 (some .int), w ∈ TB := tb_ins (by decide +kernel)
theorem hd_X8_fewest : kHd yX8_fewest 0 := by decide +kernel
theorem kw_X8_fewest : ∀ w ∈ k5V RL 125 yX8_fewest cX8_fewest 6 (some .int), w ∈ TB := tb_ins (by decide +kernel)
theorem hd_X7_seated : kHd yX7_seated 1 := by decide +kernel
theorem kw_X7_seated : ∀ w ∈ k5V RL 126 yX7_seated cX7_seated 5 (some .int), w ∈ TB := tb_ins (by decide +kernel)
theorem hd_X8_seated : kHd yX8_seated 1 := by decide +kernel
theorem kw_X8_seated : ∀ w ∈ k5V RL 129 yX8_seated cX8_seated 4 (some .int), w ∈ TB := tb_ins (by decide +kernel)
theorem hd_X7_laces : kHd yX7_laces 2 := by decide +kernel
theorem kw_X7_laces : ∀ w ∈ k5V RL 130 yX7_laces cX7_laces 4 (some .int), w ∈ TB := tb_ins (by decide +kernel)
theorem hd_X8_laces : kHd yX8_laces 2 := by decide +kernel
theorem kw_X8_laces : ∀ w ∈ k5V RL 133 yX8_laces cX8_laces 7 (some .int), w ∈ TB := tb_ins (by decide +kernel)
theorem hd_X7_strengths : kHd yX7_strengths 2 := by decide +kernel
theorem kw_X7_strengths : ∀ w ∈ k5V RL 134 yX7_strengths cX7_strengths 8 (some .int), w ∈ TB := tb_ins (by decide +kernel)
theorem hd_X8_strengths : kHd yX8_strengths 2 := by decide +kernel
theorem kw_X8_strengths : ∀ w ∈ k5V RL 137 yX8_strengths cX8_strengths 8 (some .int), w ∈ TB := tb_ins (by decide +kernel)
theorem hd_X7_kinds : kHd yX7_kinds 2 := by decide +kernel
theorem kw_X7_kinds : ∀ w ∈ k5V RL 138 yX7_kinds cX7_kinds 5 (some .int), w ∈ TB := tb_ins (by decide +kernel)
theorem hd_X8_kinds : kHd yX8_kinds 2 := by decide +kernel
theorem kw_X8_kinds : ∀ w ∈ k5V RL 141 yX8_kinds cX8_kinds 4 (some .int), w ∈ TB := tb_ins (by decide +kernel)
theorem hd_X7_test : kHd yX7_test 2 := by decide +kernel
theorem kw_X7_test : ∀ w ∈ k5V RL 142 yX7_test cX7_test 11 (some .int), w ∈ TB := tb_ins (by decide +kernel)
theorem hd_X8_test : kHd yX8_test 2 := by decide +kernel
theorem kw_X8_test : ∀ w ∈ k5V RL 145 yX8_test cX8_test 10 (some .int), w ∈ TB := tb_ins (by decide +kernel)
theorem hd_X7_duel : kHd yX7_duel 1 := by decide +kernel
theorem kw_X7_duel : ∀ w ∈ k5V RL 146 yX7_duel cX7_duel 2 (some .int), w ∈ TB := tb_ins (by decide +kernel)
theorem hd_X8_duel : kHd yX8_duel 1 := by decide +kernel
theorem kw_X8_duel : ∀ w ∈ k5V RL 149 yX8_duel cX8_duel 4 (some .int), w ∈ TB := tb_ins (by decide +kernel)
theorem hd_X7_odds : kHd yX7_odds 2 := by decide +kernel
theorem kw_X7_odds : ∀ w ∈ k5V RL 150 yX7_odds cX7_odds 3 (some .int), w ∈ TB := tb_ins (by decide +kernel)
theorem hd_X8_odds : kHd yX8_odds 2 := by decide +kernel
theorem kw_X8_odds : ∀ w ∈ k5V RL 153 yX8_odds cX8_odds 4 (some .int), w ∈ TB := tb_ins (by decide +kernel)
theorem hd_X7_mid : kHd yX7_mid 1 := by decide +kernel
theorem kw_X7_mid : ∀ w ∈ k5V RL 154 yX7_mid cX7_mid 2 (some .int), w ∈ TB := tb_ins (by decide +kernel)
theorem hd_X8_mid : kHd yX8_mid 1 := by decide +kernel
theorem kw_X8_mid : ∀ w ∈ k5V RL 157 yX8_mid cX8_mid 2 (some .int), w ∈ TB := tb_ins (by decide +kernel)
theorem hd_X7_lots : kHd yX7_lots 2 := by decide +kernel
theorem kw_X7_lots : ∀ w ∈ k5V RL 158 yX7_lots cX7_lots 6 (some .int), w ∈ TB := tb_ins (by decide +kernel)
theorem hd_X8_lots : kHd yX8_lots 2 := by decide +kernel
theorem kw_X8_lots : ∀ w ∈ k5V RL 161 yX8_lots cX8_lots 7 (some .int), w ∈ TB := tb_ins (by decide +kernel)
theorem hd_X7_asked : kHd yX7_asked 0 := by decide +kernel
theorem kw_X7_asked : ∀ w ∈ k5V RL 162 yX7_asked cX7_asked 1 (some .int), w ∈ TB := tb_ins (by decide +kernel)
theorem hd_X8_asked : kHd yX8_asked 0 := by decide +kernel
theorem kw_X8_asked : ∀ w ∈ k5V RL 165 yX8_asked cX8_asked 1 (some .int), w ∈ TB := tb_ins (by decide +kernel)
theorem hd_X7_upper : kHd yX7_upper 0 := by decide +kernel
theorem kw_X7_upper : ∀ w ∈ k5V RL 166 yX7_upper cX7_upper 1 (some .long), w ∈ TB := tb_ins (by decide +kernel)
theorem hd_X8_upper : kHd yX8_upper 0 := by decide +kernel
theorem kw_X8_upper : ∀ w ∈ k5V RL 170 yX8_upper cX8_upper 1 (some .long), w ∈ TB := tb_ins (by decide +kernel)
theorem hd_X7_lower : kHd yX7_lower 0 := by decide +kernel
theorem kw_X7_lower : ∀ w ∈ k5V RL 171 yX7_lower cX7_lower 1 (some .long), w ∈ TB := tb_ins (by decide +kernel)
theorem hd_X8_lower : kHd yX8_lower 0 := by decide +kernel
theorem kw_X8_lower : ∀ w ∈ k5V RL 174 yX8_lower cX8_lower 1 (some .long), w ∈ TB := tb_ins (by decide +kernel)
theorem hd_X7_count : kHd yX7_count 1 := by decide +kernel
theorem kw_X7_count : ∀ w ∈ k5V RL 175 yX7_count cX7_count 2 (some .int), w ∈ TB := tb_ins (by decide +kernel)
theorem kw_X8_count : ∀ w ∈ k5V RL 178 yX8_count cX8_count 2 (some .int), w ∈ TB := tb_ins (by decide +kernel)
theorem hd_X7_finding : kHd yX7_finding 0 := by decide +kernel
theorem kw_X7_finding : ∀ w ∈ k5V RL 179 yX7_finding cX7_finding 1 (some .int), w ∈ TB := tb_ins (by decide +kernel)
theorem hd_X8_finding : kHd yX8_finding 0 := by decide +kernel
theorem kw_X8_finding : ∀ w ∈ k5V RL 182 yX8_finding cX8_finding 1 (some .int), w ∈ TB := tb_ins (by decide +kernel)
theorem hd_X7_findings : kHd yX7_findings 1 := by decide +kernel
theorem kw_X7_findings : ∀ w ∈ k5V RL 183 yX7_findings cX7_findings 2 (some .int), w ∈ TB := tb_ins (by decide +kernel)
theorem hd_X8_findings : kHd yX8_findings 1 := by decide +kernel
theorem kw_X8_findings : ∀ w ∈ k5V RL 186 yX8_findings cX8_findings 2 (some .int), w ∈ TB := tb_ins (by decide +kernel)
theorem hd_X7_digest : kHd yX7_digest 0 := by decide +kernel
theorem kw_X7_digest : ∀ w ∈ k5V RL 187 yX7_digest cX7_digest 5 (some .long), w ∈ TB := tb_ins (by decide +kernel)
theorem hd_X8_digest : kHd yX8_digest 0 := by decide +kernel
theorem kw_X8_digest : ∀ w ∈ k5V RL 190 yX8_digest cX8_digest 5 (some .long), w ∈ TB := tb_ins (by decide +kernel)
section LCS
variable {p : Program} {l : Launch} {e : Env} {R : Room} {s : State} {m : MethodId} {args : Array Value} {below : List Frame} {meth : Method} {c : Code} {H : Heap} {locs : List Loc} {cells slots : Nat} {Q : State → Prop}
variable {ls : Array Slot} {GX GM : GT} {σ μ : Mem} {b L : Nat} {xs : Nat → Int32} {t : Nat}
set_option maxHeartbeats 1000000 in
theorem law_0 (C : LC p s args m meth c b L xs GX GM) (hR : Rl σ μ) (h : LWS s GX GM σ μ H locs) (ht : t + 6 ≤ L) (hL : L ≤ 3072) (hRR : 100 ≤ R.frames ∧ 1000 ≤ R.locals) (hf : cells ≤ R.cells ∧ slots ≤ R.slots) (hls : ls.size = 4) (hl : lv_has ls 4 (lLoc b GX GM (nI t)))
    (kk : ∀ (σ1 μ1 : Mem) (H1 : Heap) (locs1 : List Loc), Rl σ1 μ1 → LWS s GX GM σ1 μ1 H1 locs1 → W p l e R s m args below meth c H1 locs1 cells slots Q (F0 m 1342 ls [])) : W p l e R s m args below meth c H locs cells slots Q (F0 m 220 ls []) := by
  have hx := C.1.1
  have hb := C.1.2.1
  have hA := op_row hR (xs (t + 1)) (xs (t + 2))
  refine lv_aload_n hx hb dL_law_220 rfl (lv_at hl 2 rfl) ?_
  refine lArg C h (j := 1) rfl (by omega) hL hl dL_law_221 dL_law_222 dL_law_223 dL_law_224 dL_law_225 ?_
  refine lArg C h (j := 2) rfl (by omega) hL hl dL_law_226 dL_law_227 dL_law_228 dL_law_229 dL_law_230 ?_
  refine lXi C h (As := [.int (xs (t + 1)), .int (xs (t + 2))]) rfl (c_X7_row GX l σ (ro := (xs (t + 1))) (n := (xs (t + 2)))) kw_X7_row hd_X7_row rfl ⟨rfl, rfl⟩ ⟨Nat.le_trans (by decide) hRR.1, Nat.le_trans (by decide) hRR.2⟩ hf hls rfl dL_law_231 (fun r7 σ1 H7 L7 p7 h1 => ?_)
  refine lv_aload_n hx hb dL_law_234 rfl (lv_at hl 1 rfl) ?_
  refine lArg C h1 (j := 1) rfl (by omega) hL hl dL_law_235 dL_law_236 dL_law_237 dL_law_238 dL_law_239 ?_
  refine lArg C h1 (j := 2) rfl (by omega) hL hl dL_law_240 dL_law_241 dL_law_242 dL_law_243 dL_law_244 ?_
  refine lMi C h1 (As := [.int (xs (t + 1)), .int (xs (t + 2))]) rfl (c_X8_row GM l μ (ro := (xs (t + 1))) (n := (xs (t + 2)))) kw_X8_row hd_X8_row rfl ⟨rfl, rfl⟩ ⟨Nat.le_trans (by decide) hRR.1, Nat.le_trans (by decide) hRR.2⟩ hf hls rfl dL_law_245 (fun r8 μ1 H8 L8 p8 h2 => ?_)
  have e0 : r7 = r8 := p7.1.trans (hA.1.trans p8.1.symm)
  have hR1 : Rl σ1 μ1 := by rw [p7.2, p8.2]; exact hA.2
  exact lv_icmp_eq (tgt := 1342) hx hb dL_law_248 (by decide) (fun _ => kk _ _ _ _ hR1 h2) (fun q => absurd e0 q)
set_option maxHeartbeats 1000000 in
theorem law_1 (C : LC p s args m meth c b L xs GX GM) (hR : Rl σ μ) (h : LWS s GX GM σ μ H locs) (ht : t + 6 ≤ L) (hL : L ≤ 3072) (hRR : 100 ≤ R.frames ∧ 1000 ≤ R.locals) (hf : cells ≤ R.cells ∧ slots ≤ R.slots) (hls : ls.size = 4) (hl : lv_has ls 4 (lLoc b GX GM (nI t)))
    (kk : ∀ (σ1 μ1 : Mem) (H1 : Heap) (locs1 : List Loc), Rl σ1 μ1 → LWS s GX GM σ1 μ1 H1 locs1 → W p l e R s m args below meth c H1 locs1 cells slots Q (F0 m 1342 ls [])) : W p l e R s m args below meth c H locs cells slots Q (F0 m 253 ls []) := by
  have hx := C.1.1
  have hb := C.1.2.1
  have hA := op_lay hR (xs (t + 1)) (xs (t + 2)) (xs (t + 3))
  refine lv_aload_n hx hb dL_law_253 rfl (lv_at hl 2 rfl) ?_
  refine lArg C h (j := 1) rfl (by omega) hL hl dL_law_254 dL_law_255 dL_law_256 dL_law_257 dL_law_258 ?_
  refine lArg C h (j := 2) rfl (by omega) hL hl dL_law_259 dL_law_260 dL_law_261 dL_law_262 dL_law_263 ?_
  refine lArg C h (j := 3) rfl (by omega) hL hl dL_law_264 dL_law_265 dL_law_266 dL_law_267 dL_law_268 ?_
  refine lXi C h (As := [.int (xs (t + 1)), .int (xs (t + 2)), .int (xs (t + 3))]) rfl (c_X7_lay GX l σ (ro := (xs (t + 1))) (i := (xs (t + 2))) (v := (xs (t + 3)))) kw_X7_lay hd_X7_lay rfl ⟨rfl, rfl⟩ ⟨Nat.le_trans (by decide) hRR.1, Nat.le_trans (by decide) hRR.2⟩ hf hls rfl dL_law_269 (fun r7 σ1 H7 L7 p7 h1 => ?_)
  refine lv_aload_n hx hb dL_law_272 rfl (lv_at hl 1 rfl) ?_
  refine lArg C h1 (j := 1) rfl (by omega) hL hl dL_law_273 dL_law_274 dL_law_275 dL_law_276 dL_law_277 ?_
  refine lArg C h1 (j := 2) rfl (by omega) hL hl dL_law_278 dL_law_279 dL_law_280 dL_law_281 dL_law_282 ?_
  refine lArg C h1 (j := 3) rfl (by omega) hL hl dL_law_283 dL_law_284 dL_law_285 dL_law_286 dL_law_287 ?_
  refine lMi C h1 (As := [.int (xs (t + 1)), .int (xs (t + 2)), .int (xs (t + 3))]) rfl (c_X8_lay GM l μ (ro := (xs (t + 1))) (i := (xs (t + 2))) (v := (xs (t + 3))) (hrm := Rl_RM hR)) kw_X8_lay hd_X8_lay rfl ⟨rfl, rfl⟩ ⟨Nat.le_trans (by decide) hRR.1, Nat.le_trans (by decide) hRR.2⟩ hf hls rfl dL_law_288 (fun r8 μ1 H8 L8 p8 h2 => ?_)
  have e0 : r7 = r8 := p7.1.trans (hA.1.trans p8.1.symm)
  have hR1 : Rl σ1 μ1 := by rw [p7.2, p8.2]; exact hA.2
  exact lv_icmp_eq (tgt := 1342) hx hb dL_law_291 (by decide) (fun _ => kk _ _ _ _ hR1 h2) (fun q => absurd e0 q)
set_option maxHeartbeats 1000000 in
theorem law_2 (C : LC p s args m meth c b L xs GX GM) (hR : Rl σ μ) (h : LWS s GX GM σ μ H locs) (ht : t + 6 ≤ L) (hL : L ≤ 3072) (hRR : 100 ≤ R.frames ∧ 1000 ≤ R.locals) (hf : cells ≤ R.cells ∧ slots ≤ R.slots) (hls : ls.size = 4) (hl : lv_has ls 4 (lLoc b GX GM (nI t)))
    (kk : ∀ (σ1 μ1 : Mem) (H1 : Heap) (locs1 : List Loc), Rl σ1 μ1 → LWS s GX GM σ1 μ1 H1 locs1 → W p l e R s m args below meth c H1 locs1 cells slots Q (F0 m 1342 ls [])) : W p l e R s m args below meth c H locs cells slots Q (F0 m 296 ls []) := by
  have hx := C.1.1
  have hb := C.1.2.1
  have hA := op_at hR (xs (t + 1)) (xs (t + 2))
  refine lv_aload_n hx hb dL_law_296 rfl (lv_at hl 2 rfl) ?_
  refine lArg C h (j := 1) rfl (by omega) hL hl dL_law_297 dL_law_298 dL_law_299 dL_law_300 dL_law_301 ?_
  refine lArg C h (j := 2) rfl (by omega) hL hl dL_law_302 dL_law_303 dL_law_304 dL_law_305 dL_law_306 ?_
  refine lXi C h (As := [.int (xs (t + 1)), .int (xs (t + 2))]) rfl (c_X7_at GX l σ (ro := (xs (t + 1))) (i := (xs (t + 2)))) kw_X7_at hd_X7_at rfl ⟨rfl, rfl⟩ ⟨Nat.le_trans (by decide) hRR.1, Nat.le_trans (by decide) hRR.2⟩ hf hls rfl dL_law_307 (fun r7 σ1 H7 L7 p7 h1 => ?_)
  refine lv_aload_n hx hb dL_law_310 rfl (lv_at hl 1 rfl) ?_
  refine lArg C h1 (j := 1) rfl (by omega) hL hl dL_law_311 dL_law_312 dL_law_313 dL_law_314 dL_law_315 ?_
  refine lArg C h1 (j := 2) rfl (by omega) hL hl dL_law_316 dL_law_317 dL_law_318 dL_law_319 dL_law_320 ?_
  refine lMi C h1 (As := [.int (xs (t + 1)), .int (xs (t + 2))]) rfl (c_X8_at GM l μ (ro := (xs (t + 1))) (i := (xs (t + 2))) (hrm := Rl_RM hR)) kw_X8_at hd_X8_at rfl ⟨rfl, rfl⟩ ⟨Nat.le_trans (by decide) hRR.1, Nat.le_trans (by decide) hRR.2⟩ hf hls rfl dL_law_321 (fun r8 μ1 H8 L8 p8 h2 => ?_)
  have e0 : r7 = r8 := p7.1.trans (hA.1.trans p8.1.symm)
  have hR1 : Rl σ1 μ1 := by rw [p7.2, p8.2]; exact hA.2
  exact lv_icmp_eq (tgt := 1342) hx hb dL_law_324 (by decide) (fun _ => kk _ _ _ _ hR1 h2) (fun q => absurd e0 q)
set_option maxHeartbeats 1000000 in
theorem law_3 (C : LC p s args m meth c b L xs GX GM) (hR : Rl σ μ) (h : LWS s GX GM σ μ H locs) (ht : t + 6 ≤ L) (hL : L ≤ 3072) (hRR : 100 ≤ R.frames ∧ 1000 ≤ R.locals) (hf : cells ≤ R.cells ∧ slots ≤ R.slots) (hls : ls.size = 4) (hl : lv_has ls 4 (lLoc b GX GM (nI t)))
    (kk : ∀ (σ1 μ1 : Mem) (H1 : Heap) (locs1 : List Loc), Rl σ1 μ1 → LWS s GX GM σ1 μ1 H1 locs1 → W p l e R s m args below meth c H1 locs1 cells slots Q (F0 m 1342 ls [])) : W p l e R s m args below meth c H locs cells slots Q (F0 m 329 ls []) := by
  have hx := C.1.1
  have hb := C.1.2.1
  have hA := op_tear hR (xs (t + 1))
  refine lv_aload_n hx hb dL_law_329 rfl (lv_at hl 2 rfl) ?_
  refine lArg C h (j := 1) rfl (by omega) hL hl dL_law_330 dL_law_331 dL_law_332 dL_law_333 dL_law_334 ?_
  refine lXi C h (As := [.int (xs (t + 1))]) rfl (c_X7_tear GX l σ (ro := (xs (t + 1)))) kw_X7_tear hd_X7_tear rfl ⟨rfl, rfl⟩ ⟨Nat.le_trans (by decide) hRR.1, Nat.le_trans (by decide) hRR.2⟩ hf hls rfl dL_law_335 (fun r7 σ1 H7 L7 p7 h1 => ?_)
  refine lv_aload_n hx hb dL_law_338 rfl (lv_at hl 1 rfl) ?_
  refine lArg C h1 (j := 1) rfl (by omega) hL hl dL_law_339 dL_law_340 dL_law_341 dL_law_342 dL_law_343 ?_
  refine lMi C h1 (As := [.int (xs (t + 1))]) rfl (c_X8_tear GM l μ (ro := (xs (t + 1)))) kw_X8_tear hd_X8_tear rfl ⟨rfl, rfl⟩ ⟨Nat.le_trans (by decide) hRR.1, Nat.le_trans (by decide) hRR.2⟩ hf hls rfl dL_law_344 (fun r8 μ1 H8 L8 p8 h2 => ?_)
  have e0 : r7 = r8 := p7.1.trans (hA.1.trans p8.1.symm)
  have hR1 : Rl σ1 μ1 := by rw [p7.2, p8.2]; exact hA.2
  exact lv_icmp_eq (tgt := 1342) hx hb dL_law_347 (by decide) (fun _ => kk _ _ _ _ hR1 h2) (fun q => absurd e0 q)
set_option maxHeartbeats 1000000 in
theorem law_4 (C : LC p s args m meth c b L xs GX GM) (hR : Rl σ μ) (h : LWS s GX GM σ μ H locs) (ht : t + 6 ≤ L) (hL : L ≤ 3072) (hRR : 100 ≤ R.frames ∧ 1000 ≤ R.locals) (hf : cells ≤ R.cells ∧ slots ≤ R.slots) (hls : ls.size = 4) (hl : lv_has ls 4 (lLoc b GX GM (nI t)))
    (kk : ∀ (σ1 μ1 : Mem) (H1 : Heap) (locs1 : List Loc), Rl σ1 μ1 → LWS s GX GM σ1 μ1 H1 locs1 → W p l e R s m args below meth c H1 locs1 cells slots Q (F0 m 1342 ls [])) : W p l e R s m args below meth c H locs cells slots Q (F0 m 352 ls []) := by
  have hx := C.1.1
  have hb := C.1.2.1
  have hA := op_copy hR (xs (t + 1)) (xs (t + 2)) (xs (t + 3)) (xs (t + 4)) (xs (t + 5))
  refine lv_aload_n hx hb dL_law_352 rfl (lv_at hl 2 rfl) ?_
  refine lArg C h (j := 1) rfl (by omega) hL hl dL_law_353 dL_law_354 dL_law_355 dL_law_356 dL_law_357 ?_
  refine lArg C h (j := 2) rfl (by omega) hL hl dL_law_358 dL_law_359 dL_law_360 dL_law_361 dL_law_362 ?_
  refine lArg C h (j := 3) rfl (by omega) hL hl dL_law_363 dL_law_364 dL_law_365 dL_law_366 dL_law_367 ?_
  refine lArg C h (j := 4) rfl (by omega) hL hl dL_law_368 dL_law_369 dL_law_370 dL_law_371 dL_law_372 ?_
  refine lArg C h (j := 5) rfl (by omega) hL hl dL_law_373 dL_law_374 dL_law_375 dL_law_376 dL_law_377 ?_
  refine lXi C h (As := [.int (xs (t + 1)), .int (xs (t + 2)), .int (xs (t + 3)), .int (xs (t + 4)), .int (xs (t + 5))]) rfl (c_X7_copy GX l σ (ro := (xs (t + 1))) (i := (xs (t + 2))) (onto := (xs (t + 3))) (j := (xs (t + 4))) (n := (xs (t + 5))) (hz := Rl_RZ hR)) kw_X7_copy hd_X7_copy rfl ⟨rfl, rfl⟩ ⟨Nat.le_trans (by decide) hRR.1, Nat.le_trans (by decide) hRR.2⟩ hf hls rfl dL_law_378 (fun r7 σ1 H7 L7 p7 h1 => ?_)
  refine lv_aload_n hx hb dL_law_381 rfl (lv_at hl 1 rfl) ?_
  refine lArg C h1 (j := 1) rfl (by omega) hL hl dL_law_382 dL_law_383 dL_law_384 dL_law_385 dL_law_386 ?_
  refine lArg C h1 (j := 2) rfl (by omega) hL hl dL_law_387 dL_law_388 dL_law_389 dL_law_390 dL_law_391 ?_
  refine lArg C h1 (j := 3) rfl (by omega) hL hl dL_law_392 dL_law_393 dL_law_394 dL_law_395 dL_law_396 ?_
  refine lArg C h1 (j := 4) rfl (by omega) hL hl dL_law_397 dL_law_398 dL_law_399 dL_law_400 dL_law_401 ?_
  refine lArg C h1 (j := 5) rfl (by omega) hL hl dL_law_402 dL_law_403 dL_law_404 dL_law_405 dL_law_406 ?_
  refine lMi C h1 (As := [.int (xs (t + 1)), .int (xs (t + 2)), .int (xs (t + 3)), .int (xs (t + 4)), .int (xs (t + 5))]) rfl (c_X8_copy GM l μ (ro := (xs (t + 1))) (i := (xs (t + 2))) (onto := (xs (t + 3))) (jj := (xs (t + 4))) (n := (xs (t + 5))) (hrm := Rl_RM hR)) kw_X8_copy hd_X8_copy rfl ⟨rfl, rfl⟩ ⟨Nat.le_trans (by decide) hRR.1, Nat.le_trans (by decide) hRR.2⟩ hf hls rfl dL_law_407 (fun r8 μ1 H8 L8 p8 h2 => ?_)
  have e0 : r7 = r8 := p7.1.trans (hA.1.trans p8.1.symm)
  have hR1 : Rl σ1 μ1 := by rw [p7.2, p8.2]; exact hA.2
  exact lv_icmp_eq (tgt := 1342) hx hb dL_law_410 (by decide) (fun _ => kk _ _ _ _ hR1 h2) (fun q => absurd e0 q)
set_option maxHeartbeats 1000000 in
theorem law_5 (C : LC p s args m meth c b L xs GX GM) (hR : Rl σ μ) (h : LWS s GX GM σ μ H locs) (ht : t + 6 ≤ L) (hL : L ≤ 3072) (hRR : 100 ≤ R.frames ∧ 1000 ≤ R.locals) (hf : cells ≤ R.cells ∧ slots ≤ R.slots) (hls : ls.size = 4) (hl : lv_has ls 4 (lLoc b GX GM (nI t)))
    (kk : ∀ (σ1 μ1 : Mem) (H1 : Heap) (locs1 : List Loc), Rl σ1 μ1 → LWS s GX GM σ1 μ1 H1 locs1 → W p l e R s m args below meth c H1 locs1 cells slots Q (F0 m 1342 ls [])) : W p l e R s m args below meth c H locs cells slots Q (F0 m 415 ls []) := by
  have hx := C.1.1
  have hb := C.1.2.1
  have hA := op_mean hR (xs (t + 1))
  refine lv_aload_n hx hb dL_law_415 rfl (lv_at hl 2 rfl) ?_
  refine lArg C h (j := 1) rfl (by omega) hL hl dL_law_416 dL_law_417 dL_law_418 dL_law_419 dL_law_420 ?_
  refine lXi C h (As := [.int (xs (t + 1))]) rfl (c_X7_mean GX l σ (ro := (xs (t + 1))) (hz := Rl_RZ hR)) kw_X7_mean hd_X7_mean rfl ⟨rfl, rfl⟩ ⟨Nat.le_trans (by decide) hRR.1, Nat.le_trans (by decide) hRR.2⟩ hf hls rfl dL_law_421 (fun r7 σ1 H7 L7 p7 h1 => ?_)
  refine lv_aload_n hx hb dL_law_424 rfl (lv_at hl 1 rfl) ?_
  refine lArg C h1 (j := 1) rfl (by omega) hL hl dL_law_425 dL_law_426 dL_law_427 dL_law_428 dL_law_429 ?_
  refine lMi C h1 (As := [.int (xs (t + 1))]) rfl (c_X8_mean GM l μ (ro := (xs (t + 1))) (hrm := Rl_RM hR)) kw_X8_mean hd_X8_mean rfl ⟨rfl, rfl⟩ ⟨Nat.le_trans (by decide) hRR.1, Nat.le_trans (by decide) hRR.2⟩ hf hls rfl dL_law_430 (fun r8 μ1 H8 L8 p8 h2 => ?_)
  have e0 : r7 = r8 := p7.1.trans (hA.1.trans p8.1.symm)
  have hR1 : Rl σ1 μ1 := by rw [p7.2, p8.2]; exact hA.2
  exact lv_icmp_eq (tgt := 1342) hx hb dL_law_433 (by decide) (fun _ => kk _ _ _ _ hR1 h2) (fun q => absurd e0 q)
set_option maxHeartbeats 1000000 in
theorem law_6 (C : LC p s args m meth c b L xs GX GM) (hR : Rl σ μ) (h : LWS s GX GM σ μ H locs) (ht : t + 6 ≤ L) (hL : L ≤ 3072) (hRR : 100 ≤ R.frames ∧ 1000 ≤ R.locals) (hf : cells ≤ R.cells ∧ slots ≤ R.slots) (hls : ls.size = 4) (hl : lv_has ls 4 (lLoc b GX GM (nI t)))
    (kk : ∀ (σ1 μ1 : Mem) (H1 : Heap) (locs1 : List Loc), Rl σ1 μ1 → LWS s GX GM σ1 μ1 H1 locs1 → W p l e R s m args below meth c H1 locs1 cells slots Q (F0 m 1342 ls [])) : W p l e R s m args below meth c H locs cells slots Q (F0 m 438 ls []) := by
  have hx := C.1.1
  have hb := C.1.2.1
  have hA := op_text hR (xs (t + 1)) (xs (t + 2))
  refine lv_aload_n hx hb dL_law_438 rfl (lv_at hl 2 rfl) ?_
  refine lArg C h (j := 1) rfl (by omega) hL hl dL_law_439 dL_law_440 dL_law_441 dL_law_442 dL_law_443 ?_
  refine lArg C h (j := 2) rfl (by omega) hL hl dL_law_444 dL_law_445 dL_law_446 dL_law_447 dL_law_448 ?_
  refine lXi C h (As := [.int (xs (t + 1)), .int (xs (t + 2))]) rfl (c_X7_text GX l σ (ro := (xs (t + 1))) (n := (xs (t + 2)))) kw_X7_text hd_X7_text rfl ⟨rfl, rfl⟩ ⟨Nat.le_trans (by decide) hRR.1, Nat.le_trans (by decide) hRR.2⟩ hf hls rfl dL_law_449 (fun r7 σ1 H7 L7 p7 h1 => ?_)
  refine lv_aload_n hx hb dL_law_452 rfl (lv_at hl 1 rfl) ?_
  refine lArg C h1 (j := 1) rfl (by omega) hL hl dL_law_453 dL_law_454 dL_law_455 dL_law_456 dL_law_457 ?_
  refine lArg C h1 (j := 2) rfl (by omega) hL hl dL_law_458 dL_law_459 dL_law_460 dL_law_461 dL_law_462 ?_
  refine lMi C h1 (As := [.int (xs (t + 1)), .int (xs (t + 2))]) rfl (c_X8_text GM l μ (ro := (xs (t + 1))) (n := (xs (t + 2)))) kw_X8_text hd_X8_text rfl ⟨rfl, rfl⟩ ⟨Nat.le_trans (by decide) hRR.1, Nat.le_trans (by decide) hRR.2⟩ hf hls rfl dL_law_463 (fun r8 μ1 H8 L8 p8 h2 => ?_)
  have e0 : r7 = r8 := p7.1.trans (hA.1.trans p8.1.symm)
  have hR1 : Rl σ1 μ1 := by rw [p7.2, p8.2]; exact hA.2
  exact lv_icmp_eq (tgt := 1342) hx hb dL_law_466 (by decide) (fun _ => kk _ _ _ _ hR1 h2) (fun q => absurd e0 q)
set_option maxHeartbeats 1000000 in
theorem law_7 (C : LC p s args m meth c b L xs GX GM) (hR : Rl σ μ) (h : LWS s GX GM σ μ H locs) (ht : t + 6 ≤ L) (hL : L ≤ 3072) (hRR : 100 ≤ R.frames ∧ 1000 ≤ R.locals) (hf : cells ≤ R.cells ∧ slots ≤ R.slots) (hls : ls.size = 4) (hl : lv_has ls 4 (lLoc b GX GM (nI t)))
    (kk : ∀ (σ1 μ1 : Mem) (H1 : Heap) (locs1 : List Loc), Rl σ1 μ1 → LWS s GX GM σ1 μ1 H1 locs1 → W p l e R s m args below meth c H1 locs1 cells slots Q (F0 m 1342 ls [])) : W p l e R s m args below meth c H locs cells slots Q (F0 m 471 ls []) := by
  have hx := C.1.1
  have hb := C.1.2.1
  have hA := op_put hR (xs (t + 1)) (xs (t + 2)) (xs (t + 3))
  refine lv_aload_n hx hb dL_law_471 rfl (lv_at hl 2 rfl) ?_
  refine lArg C h (j := 1) rfl (by omega) hL hl dL_law_472 dL_law_473 dL_law_474 dL_law_475 dL_law_476 ?_
  refine lArg C h (j := 2) rfl (by omega) hL hl dL_law_477 dL_law_478 dL_law_479 dL_law_480 dL_law_481 ?_
  refine lArg C h (j := 3) rfl (by omega) hL hl dL_law_482 dL_law_483 dL_law_484 dL_law_485 dL_law_486 ?_
  refine lXi C h (As := [.int (xs (t + 1)), .int (xs (t + 2)), .int (xs (t + 3))]) rfl (c_X7_put GX l σ (ro := (xs (t + 1))) (i := (xs (t + 2))) (v := (xs (t + 3)))) kw_X7_put hd_X7_put rfl ⟨rfl, rfl⟩ ⟨Nat.le_trans (by decide) hRR.1, Nat.le_trans (by decide) hRR.2⟩ hf hls rfl dL_law_487 (fun r7 σ1 H7 L7 p7 h1 => ?_)
  refine lv_aload_n hx hb dL_law_490 rfl (lv_at hl 1 rfl) ?_
  refine lArg C h1 (j := 1) rfl (by omega) hL hl dL_law_491 dL_law_492 dL_law_493 dL_law_494 dL_law_495 ?_
  refine lArg C h1 (j := 2) rfl (by omega) hL hl dL_law_496 dL_law_497 dL_law_498 dL_law_499 dL_law_500 ?_
  refine lArg C h1 (j := 3) rfl (by omega) hL hl dL_law_501 dL_law_502 dL_law_503 dL_law_504 dL_law_505 ?_
  refine lMi C h1 (As := [.int (xs (t + 1)), .int (xs (t + 2)), .int (xs (t + 3))]) rfl (c_X8_put GM l μ (ro := (xs (t + 1))) (i := (xs (t + 2))) (v := (xs (t + 3))) (hrm := Rl_RM hR)) kw_X8_put hd_X8_put rfl ⟨rfl, rfl⟩ ⟨Nat.le_trans (by decide) hRR.1, Nat.le_trans (by decide) hRR.2⟩ hf hls rfl dL_law_506 (fun r8 μ1 H8 L8 p8 h2 => ?_)
  have e0 : r7 = r8 := p7.1.trans (hA.1.trans p8.1.symm)
  have hR1 : Rl σ1 μ1 := by rw [p7.2, p8.2]; exact hA.2
  exact lv_icmp_eq (tgt := 1342) hx hb dL_law_509 (by decide) (fun _ => kk _ _ _ _ hR1 h2) (fun q => absurd e0 q)
set_option maxHeartbeats 1000000 in
theorem law_8 (C : LC p s args m meth c b L xs GX GM) (hR : Rl σ μ) (h : LWS s GX GM σ μ H locs) (ht : t + 6 ≤ L) (hL : L ≤ 3072) (hRR : 100 ≤ R.frames ∧ 1000 ≤ R.locals) (hf : cells ≤ R.cells ∧ slots ≤ R.slots) (hls : ls.size = 4) (hl : lv_has ls 4 (lLoc b GX GM (nI t)))
    (kk : ∀ (σ1 μ1 : Mem) (H1 : Heap) (locs1 : List Loc), Rl σ1 μ1 → LWS s GX GM σ1 μ1 H1 locs1 → W p l e R s m args below meth c H1 locs1 cells slots Q (F0 m 1342 ls [])) : W p l e R s m args below meth c H locs cells slots Q (F0 m 514 ls []) := by
  have hx := C.1.1
  have hb := C.1.2.1
  have hA := op_fault hR (xs (t + 1))
  refine lv_aload_n hx hb dL_law_514 rfl (lv_at hl 2 rfl) ?_
  refine lArg C h (j := 1) rfl (by omega) hL hl dL_law_515 dL_law_516 dL_law_517 dL_law_518 dL_law_519 ?_
  refine lXi C h (As := [.int (xs (t + 1))]) rfl (c_X7_fault GX l σ (ro := (xs (t + 1))) (hz := Rl_RZ hR)) kw_X7_fault hd_X7_fault rfl ⟨rfl, rfl⟩ ⟨Nat.le_trans (by decide) hRR.1, Nat.le_trans (by decide) hRR.2⟩ hf hls rfl dL_law_520 (fun r7 σ1 H7 L7 p7 h1 => ?_)
  refine lv_aload_n hx hb dL_law_523 rfl (lv_at hl 1 rfl) ?_
  refine lArg C h1 (j := 1) rfl (by omega) hL hl dL_law_524 dL_law_525 dL_law_526 dL_law_527 dL_law_528 ?_
  refine lMi C h1 (As := [.int (xs (t + 1))]) rfl (c_X8_fault GM l μ (ro := (xs (t + 1))) (hrm := Rl_RM hR)) kw_X8_fault hd_X8_fault rfl ⟨rfl, rfl⟩ ⟨Nat.le_trans (by decide) hRR.1, Nat.le_trans (by decide) hRR.2⟩ hf hls rfl dL_law_529 (fun r8 μ1 H8 L8 p8 h2 => ?_)
  have e0 : r7 = r8 := p7.1.trans (hA.1.trans p8.1.symm)
  have hR1 : Rl σ1 μ1 := by rw [p7.2, p8.2]; exact hA.2
  exact lv_icmp_eq (tgt := 1342) hx hb dL_law_532 (by decide) (fun _ => kk _ _ _ _ hR1 h2) (fun q => absurd e0 q)
set_option maxHeartbeats 1000000 in
theorem law_9 (C : LC p s args m meth c b L xs GX GM) (hR : Rl σ μ) (h : LWS s GX GM σ μ H locs) (ht : t + 6 ≤ L) (hL : L ≤ 3072) (hRR : 100 ≤ R.frames ∧ 1000 ≤ R.locals) (hf : cells ≤ R.cells ∧ slots ≤ R.slots) (hls : ls.size = 4) (hl : lv_has ls 4 (lLoc b GX GM (nI t)))
    (kk : ∀ (σ1 μ1 : Mem) (H1 : Heap) (locs1 : List Loc), Rl σ1 μ1 → LWS s GX GM σ1 μ1 H1 locs1 → W p l e R s m args below meth c H1 locs1 cells slots Q (F0 m 1342 ls [])) : W p l e R s m args below meth c H locs cells slots Q (F0 m 537 ls []) := by
  have hx := C.1.1
  have hb := C.1.2.1
  have hA := op_nave hR (xs (t + 1))
  refine lv_aload_n hx hb dL_law_537 rfl (lv_at hl 2 rfl) ?_
  refine lArg C h (j := 1) rfl (by omega) hL hl dL_law_538 dL_law_539 dL_law_540 dL_law_541 dL_law_542 ?_
  refine lXi C h (As := [.int (xs (t + 1))]) rfl (c_X7_nave GX l σ (ro := (xs (t + 1))) (hz := Rl_RZ hR)) kw_X7_nave hd_X7_nave rfl ⟨rfl, rfl⟩ ⟨Nat.le_trans (by decide) hRR.1, Nat.le_trans (by decide) hRR.2⟩ hf hls rfl dL_law_543 (fun r7 σ1 H7 L7 p7 h1 => ?_)
  refine lv_aload_n hx hb dL_law_546 rfl (lv_at hl 1 rfl) ?_
  refine lArg C h1 (j := 1) rfl (by omega) hL hl dL_law_547 dL_law_548 dL_law_549 dL_law_550 dL_law_551 ?_
  refine lMi C h1 (As := [.int (xs (t + 1))]) rfl (c_X8_nave GM l μ (ro := (xs (t + 1))) (hrm := Rl_RM hR)) kw_X8_nave hd_X8_nave rfl ⟨rfl, rfl⟩ ⟨Nat.le_trans (by decide) hRR.1, Nat.le_trans (by decide) hRR.2⟩ hf hls rfl dL_law_552 (fun r8 μ1 H8 L8 p8 h2 => ?_)
  have e0 : r7 = r8 := p7.1.trans (hA.1.trans p8.1.symm)
  have hR1 : Rl σ1 μ1 := by rw [p7.2, p8.2]; exact hA.2
  exact lv_icmp_eq (tgt := 1342) hx hb dL_law_555 (by decide) (fun _ => kk _ _ _ _ hR1 h2) (fun q => absurd e0 q)
set_option maxHeartbeats 1000000 in
theorem law_10 (C : LC p s args m meth c b L xs GX GM) (hR : Rl σ μ) (h : LWS s GX GM σ μ H locs) (ht : t + 6 ≤ L) (hL : L ≤ 3072) (hRR : 100 ≤ R.frames ∧ 1000 ≤ R.locals) (hf : cells ≤ R.cells ∧ slots ≤ R.slots) (hls : ls.size = 4) (hl : lv_has ls 4 (lLoc b GX GM (nI t)))
    (kk : ∀ (σ1 μ1 : Mem) (H1 : Heap) (locs1 : List Loc), Rl σ1 μ1 → LWS s GX GM σ1 μ1 H1 locs1 → W p l e R s m args below meth c H1 locs1 cells slots Q (F0 m 1342 ls [])) : W p l e R s m args below meth c H locs cells slots Q (F0 m 560 ls []) := by
  have hx := C.1.1
  have hb := C.1.2.1
  have hA := op_pole hR (xs (t + 1)) (xs (t + 2))
  refine lv_aload_n hx hb dL_law_560 rfl (lv_at hl 2 rfl) ?_
  refine lArg C h (j := 1) rfl (by omega) hL hl dL_law_561 dL_law_562 dL_law_563 dL_law_564 dL_law_565 ?_
  refine lArg C h (j := 2) rfl (by omega) hL hl dL_law_566 dL_law_567 dL_law_568 dL_law_569 dL_law_570 ?_
  refine lXi C h (As := [.int (xs (t + 1)), .int (xs (t + 2))]) rfl (c_X7_pole GX l σ (k := (xs (t + 1))) (what := (xs (t + 2))) (hp := Rl_PO hR)) kw_X7_pole hd_X7_pole rfl ⟨rfl, rfl⟩ ⟨Nat.le_trans (by decide) hRR.1, Nat.le_trans (by decide) hRR.2⟩ hf hls rfl dL_law_571 (fun r7 σ1 H7 L7 p7 h1 => ?_)
  refine lv_aload_n hx hb dL_law_574 rfl (lv_at hl 1 rfl) ?_
  refine lArg C h1 (j := 1) rfl (by omega) hL hl dL_law_575 dL_law_576 dL_law_577 dL_law_578 dL_law_579 ?_
  refine lArg C h1 (j := 2) rfl (by omega) hL hl dL_law_580 dL_law_581 dL_law_582 dL_law_583 dL_law_584 ?_
  refine lMi C h1 (As := [.int (xs (t + 1)), .int (xs (t + 2))]) rfl (c_X8_pole GM l μ (k := (xs (t + 1))) (what := (xs (t + 2))) (hpb := hR.1.2.1)) kw_X8_pole hd_X8_pole rfl ⟨rfl, rfl⟩ ⟨Nat.le_trans (by decide) hRR.1, Nat.le_trans (by decide) hRR.2⟩ hf hls rfl dL_law_585 (fun r8 μ1 H8 L8 p8 h2 => ?_)
  have e0 : r7 = r8 := p7.1.trans (hA.1.trans p8.1.symm)
  have hR1 : Rl σ1 μ1 := by rw [p7.2, p8.2]; exact hA.2
  exact lv_icmp_eq (tgt := 1342) hx hb dL_law_588 (by decide) (fun _ => kk _ _ _ _ hR1 h2) (fun q => absurd e0 q)
set_option maxHeartbeats 1000000 in
theorem law_11 (C : LC p s args m meth c b L xs GX GM) (hR : Rl σ μ) (h : LWS s GX GM σ μ H locs) (ht : t + 6 ≤ L) (hL : L ≤ 3072) (hRR : 100 ≤ R.frames ∧ 1000 ≤ R.locals) (hf : cells ≤ R.cells ∧ slots ≤ R.slots) (hls : ls.size = 4) (hl : lv_has ls 4 (lLoc b GX GM (nI t)))
    (kk : ∀ (σ1 μ1 : Mem) (H1 : Heap) (locs1 : List Loc), Rl σ1 μ1 → LWS s GX GM σ1 μ1 H1 locs1 → W p l e R s m args below meth c H1 locs1 cells slots Q (F0 m 1342 ls [])) : W p l e R s m args below meth c H locs cells slots Q (F0 m 593 ls []) := by
  have hx := C.1.1
  have hb := C.1.2.1
  have hA := op_one hR (xs (t + 1)) (xs (t + 2))
  refine lv_aload_n hx hb dL_law_593 rfl (lv_at hl 2 rfl) ?_
  refine lArg C h (j := 1) rfl (by omega) hL hl dL_law_594 dL_law_595 dL_law_596 dL_law_597 dL_law_598 ?_
  refine lArg C h (j := 2) rfl (by omega) hL hl dL_law_599 dL_law_600 dL_law_601 dL_law_602 dL_law_603 ?_
  refine lXi C h (As := [.int (xs (t + 1)), .int (xs (t + 2))]) rfl (c_X7_one GX l σ (i := (xs (t + 1))) (what := (xs (t + 2))) (hp := Rl_PO hR)) kw_X7_one hd_X7_one rfl ⟨rfl, rfl⟩ ⟨Nat.le_trans (by decide) hRR.1, Nat.le_trans (by decide) hRR.2⟩ hf hls rfl dL_law_604 (fun r7 σ1 H7 L7 p7 h1 => ?_)
  refine lv_aload_n hx hb dL_law_607 rfl (lv_at hl 1 rfl) ?_
  refine lArg C h1 (j := 1) rfl (by omega) hL hl dL_law_608 dL_law_609 dL_law_610 dL_law_611 dL_law_612 ?_
  refine lArg C h1 (j := 2) rfl (by omega) hL hl dL_law_613 dL_law_614 dL_law_615 dL_law_616 dL_law_617 ?_
  refine lMi C h1 (As := [.int (xs (t + 1)), .int (xs (t + 2))]) rfl (c_X8_one GM l μ (i := (xs (t + 1))) (what := (xs (t + 2))) (hpb := hR.1.2.1) (hsv := SV_of hR)) kw_X8_one hd_X8_one rfl ⟨rfl, rfl⟩ ⟨Nat.le_trans (by decide) hRR.1, Nat.le_trans (by decide) hRR.2⟩ hf hls rfl dL_law_618 (fun r8 μ1 H8 L8 p8 h2 => ?_)
  have e0 : r7 = r8 := p7.1.trans (hA.1.trans p8.1.symm)
  have hR1 : Rl σ1 μ1 := by rw [p7.2, p8.2]; exact hA.2
  exact lv_icmp_eq (tgt := 1342) hx hb dL_law_621 (by decide) (fun _ => kk _ _ _ _ hR1 h2) (fun q => absurd e0 q)
set_option maxHeartbeats 1000000 in
theorem law_12 (C : LC p s args m meth c b L xs GX GM) (hR : Rl σ μ) (h : LWS s GX GM σ μ H locs) (ht : t + 6 ≤ L) (hL : L ≤ 3072) (hRR : 100 ≤ R.frames ∧ 1000 ≤ R.locals) (hf : cells ≤ R.cells ∧ slots ≤ R.slots) (hls : ls.size = 4) (hl : lv_has ls 4 (lLoc b GX GM (nI t)))
    (kk : ∀ (σ1 μ1 : Mem) (H1 : Heap) (locs1 : List Loc), Rl σ1 μ1 → LWS s GX GM σ1 μ1 H1 locs1 → W p l e R s m args below meth c H1 locs1 cells slots Q (F0 m 1342 ls [])) : W p l e R s m args below meth c H locs cells slots Q (F0 m 626 ls []) := by
  have hx := C.1.1
  have hb := C.1.2.1
  have hA := op_mark hR (xs (t + 1)) (xs (t + 2))
  refine lv_aload_n hx hb dL_law_626 rfl (lv_at hl 2 rfl) ?_
  refine lArg C h (j := 1) rfl (by omega) hL hl dL_law_627 dL_law_628 dL_law_629 dL_law_630 dL_law_631 ?_
  refine lArg C h (j := 2) rfl (by omega) hL hl dL_law_632 dL_law_633 dL_law_634 dL_law_635 dL_law_636 ?_
  refine lXi C h (As := [.int (xs (t + 1)), .int (xs (t + 2))]) rfl (c_X7_mark GX l σ (k := (xs (t + 1))) (kind := (xs (t + 2))) (hp := Rl_PO hR)) kw_X7_mark hd_X7_mark rfl ⟨rfl, rfl⟩ ⟨Nat.le_trans (by decide) hRR.1, Nat.le_trans (by decide) hRR.2⟩ hf hls rfl dL_law_637 (fun r7 σ1 H7 L7 p7 h1 => ?_)
  refine lv_aload_n hx hb dL_law_640 rfl (lv_at hl 1 rfl) ?_
  refine lArg C h1 (j := 1) rfl (by omega) hL hl dL_law_641 dL_law_642 dL_law_643 dL_law_644 dL_law_645 ?_
  refine lArg C h1 (j := 2) rfl (by omega) hL hl dL_law_646 dL_law_647 dL_law_648 dL_law_649 dL_law_650 ?_
  refine lMi C h1 (As := [.int (xs (t + 1)), .int (xs (t + 2))]) rfl (c_X8_mark GM l μ (k := (xs (t + 1))) (kind := (xs (t + 2))) (hpb := hR.1.2.1)) kw_X8_mark hd_X8_mark rfl ⟨rfl, rfl⟩ ⟨Nat.le_trans (by decide) hRR.1, Nat.le_trans (by decide) hRR.2⟩ hf hls rfl dL_law_651 (fun r8 μ1 H8 L8 p8 h2 => ?_)
  have e0 : r7 = r8 := p7.1.trans (hA.1.trans p8.1.symm)
  have hR1 : Rl σ1 μ1 := by rw [p7.2, p8.2]; exact hA.2
  exact lv_icmp_eq (tgt := 1342) hx hb dL_law_654 (by decide) (fun _ => kk _ _ _ _ hR1 h2) (fun q => absurd e0 q)
set_option maxHeartbeats 1000000 in
theorem law_13 (C : LC p s args m meth c b L xs GX GM) (hR : Rl σ μ) (h : LWS s GX GM σ μ H locs) (ht : t + 6 ≤ L) (hL : L ≤ 3072) (hRR : 100 ≤ R.frames ∧ 1000 ≤ R.locals) (hf : cells ≤ R.cells ∧ slots ≤ R.slots) (hls : ls.size = 4) (hl : lv_has ls 4 (lLoc b GX GM (nI t)))
    (kk : ∀ (σ1 μ1 : Mem) (H1 : Heap) (locs1 : List Loc), Rl σ1 μ1 → LWS s GX GM σ1 μ1 H1 locs1 → W p l e R s m args below meth c H1 locs1 cells slots Q (F0 m 1342 ls [])) : W p l e R s m args below meth c H locs cells slots Q (F0 m 659 ls []) := by
  have hx := C.1.1
  have hb := C.1.2.1
  refine lv_aload_n hx hb dL_law_659 rfl (lv_at hl 2 rfl) ?_
  refine lArg C h (j := 1) rfl (by omega) hL hl dL_law_660 dL_law_661 dL_law_662 dL_law_663 dL_law_664 ?_
  refine lArg C h (j := 2) rfl (by omega) hL hl dL_law_665 dL_law_666 dL_law_667 dL_law_668 dL_law_669 ?_
  refine lXi C h (As := [.int (xs (t + 1)), .int (xs (t + 2))]) rfl (c_X7_bears GX l σ (k := (xs (t + 1))) (wear := (xs (t + 2))) (hp := Rl_PO hR)) kw_X7_bears hd_X7_bears rfl ⟨rfl, rfl⟩ ⟨Nat.le_trans (by decide) hRR.1, Nat.le_trans (by decide) hRR.2⟩ hf hls rfl dL_law_670 (fun r7 σ1 H7 L7 p7 h1 => ?_)
  refine lv_aload_n hx hb dL_law_673 rfl (lv_at hl 1 rfl) ?_
  refine lArg C h1 (j := 1) rfl (by omega) hL hl dL_law_674 dL_law_675 dL_law_676 dL_law_677 dL_law_678 ?_
  refine lArg C h1 (j := 2) rfl (by omega) hL hl dL_law_679 dL_law_680 dL_law_681 dL_law_682 dL_law_683 ?_
  refine lMi C h1 (As := [.int (xs (t + 1)), .int (xs (t + 2))]) rfl (c_X8_bears GM l μ (k := (xs (t + 1))) (wear := (xs (t + 2))) (hpb := hR.1.2.1)) kw_X8_bears hd_X8_bears rfl ⟨rfl, rfl⟩ ⟨Nat.le_trans (by decide) hRR.1, Nat.le_trans (by decide) hRR.2⟩ hf hls rfl dL_law_684 (fun r8 μ1 H8 L8 p8 h2 => ?_)
  have e0 : r7 = r8 := p7.1.trans ((op_bears hR (xs (t + 1)) (xs (t + 2))).trans p8.1.symm)
  have hR1 : Rl σ1 μ1 := by rw [p7.2, p8.2]; exact hR
  exact lv_icmp_eq (tgt := 1342) hx hb dL_law_687 (by decide) (fun _ => kk _ _ _ _ hR1 h2) (fun q => absurd e0 q)
set_option maxHeartbeats 1000000 in
theorem law_14 (C : LC p s args m meth c b L xs GX GM) (hR : Rl σ μ) (h : LWS s GX GM σ μ H locs) (ht : t + 6 ≤ L) (hL : L ≤ 3072) (hRR : 100 ≤ R.frames ∧ 1000 ≤ R.locals) (hf : cells ≤ R.cells ∧ slots ≤ R.slots) (hls : ls.size = 4) (hl : lv_has ls 4 (lLoc b GX GM (nI t)))
    (kk : ∀ (σ1 μ1 : Mem) (H1 : Heap) (locs1 : List Loc), Rl σ1 μ1 → LWS s GX GM σ1 μ1 H1 locs1 → W p l e R s m args below meth c H1 locs1 cells slots Q (F0 m 1342 ls [])) : W p l e R s m args below meth c H locs cells slots Q (F0 m 692 ls []) := by
  have hx := C.1.1
  have hb := C.1.2.1
  have hA := op_sit hR (xs (t + 1)) (xs (t + 2))
  refine lv_aload_n hx hb dL_law_692 rfl (lv_at hl 2 rfl) ?_
  refine lArg C h (j := 1) rfl (by omega) hL hl dL_law_693 dL_law_694 dL_law_695 dL_law_696 dL_law_697 ?_
  refine lArg C h (j := 2) rfl (by omega) hL hl dL_law_698 dL_law_699 dL_law_700 dL_law_701 dL_law_702 ?_
  refine lXi C h (As := [.int (xs (t + 1)), .int (xs (t + 2))]) rfl (c_X7_sit GX l σ (i := (xs (t + 1))) (k := (xs (t + 2))) (hp := Rl_PO hR)) kw_X7_sit hd_X7_sit rfl ⟨rfl, rfl⟩ ⟨Nat.le_trans (by decide) hRR.1, Nat.le_trans (by decide) hRR.2⟩ hf hls rfl dL_law_703 (fun r7 σ1 H7 L7 p7 h1 => ?_)
  refine lv_aload_n hx hb dL_law_706 rfl (lv_at hl 1 rfl) ?_
  refine lArg C h1 (j := 1) rfl (by omega) hL hl dL_law_707 dL_law_708 dL_law_709 dL_law_710 dL_law_711 ?_
  refine lArg C h1 (j := 2) rfl (by omega) hL hl dL_law_712 dL_law_713 dL_law_714 dL_law_715 dL_law_716 ?_
  refine lMi C h1 (As := [.int (xs (t + 1)), .int (xs (t + 2))]) rfl (c_X8_sit GM l μ (i := (xs (t + 1))) (k := (xs (t + 2))) (hpb := hR.1.2.1) (hd := hR.2.2.2.1.2.1)) kw_X8_sit hd_X8_sit rfl ⟨rfl, rfl⟩ ⟨Nat.le_trans (by decide) hRR.1, Nat.le_trans (by decide) hRR.2⟩ hf hls rfl dL_law_717 (fun r8 μ1 H8 L8 p8 h2 => ?_)
  have e0 : r7 = r8 := p7.1.trans (hA.1.trans p8.1.symm)
  have hR1 : Rl σ1 μ1 := by rw [p7.2, p8.2]; exact hA.2
  exact lv_icmp_eq (tgt := 1342) hx hb dL_law_720 (by decide) (fun _ => kk _ _ _ _ hR1 h2) (fun q => absurd e0 q)
set_option maxHeartbeats 1000000 in
theorem law_15 (C : LC p s args m meth c b L xs GX GM) (hR : Rl σ μ) (h : LWS s GX GM σ μ H locs) (ht : t + 6 ≤ L) (hL : L ≤ 3072) (hRR : 100 ≤ R.frames ∧ 1000 ≤ R.locals) (hf : cells ≤ R.cells ∧ slots ≤ R.slots) (hls : ls.size = 4) (hl : lv_has ls 4 (lLoc b GX GM (nI t)))
    (kk : ∀ (σ1 μ1 : Mem) (H1 : Heap) (locs1 : List Loc), Rl σ1 μ1 → LWS s GX GM σ1 μ1 H1 locs1 → W p l e R s m args below meth c H1 locs1 cells slots Q (F0 m 1342 ls [])) : W p l e R s m args below meth c H locs cells slots Q (F0 m 725 ls []) := by
  have hx := C.1.1
  have hb := C.1.2.1
  have hA := op_down hR (xs (t + 1))
  refine lv_aload_n hx hb dL_law_725 rfl (lv_at hl 2 rfl) ?_
  refine lArg C h (j := 1) rfl (by omega) hL hl dL_law_726 dL_law_727 dL_law_728 dL_law_729 dL_law_730 ?_
  refine lXi C h (As := [.int (xs (t + 1))]) rfl (c_X7_down GX l σ (i := (xs (t + 1))) (hp := Rl_PO hR)) kw_X7_down hd_X7_down rfl ⟨rfl, rfl⟩ ⟨Nat.le_trans (by decide) hRR.1, Nat.le_trans (by decide) hRR.2⟩ hf hls rfl dL_law_731 (fun r7 σ1 H7 L7 p7 h1 => ?_)
  refine lv_aload_n hx hb dL_law_734 rfl (lv_at hl 1 rfl) ?_
  refine lArg C h1 (j := 1) rfl (by omega) hL hl dL_law_735 dL_law_736 dL_law_737 dL_law_738 dL_law_739 ?_
  refine lMi C h1 (As := [.int (xs (t + 1))]) rfl (c_X8_down GM l μ (i := (xs (t + 1))) (hpb := hR.1.2.1) (hd := hR.2.2.2.1.2.1) (hsv := SV_of hR)) kw_X8_down hd_X8_down rfl ⟨rfl, rfl⟩ ⟨Nat.le_trans (by decide) hRR.1, Nat.le_trans (by decide) hRR.2⟩ hf hls rfl dL_law_740 (fun r8 μ1 H8 L8 p8 h2 => ?_)
  have e0 : r7 = r8 := p7.1.trans (hA.1.trans p8.1.symm)
  have hR1 : Rl σ1 μ1 := by rw [p7.2, p8.2]; exact hA.2
  exact lv_icmp_eq (tgt := 1342) hx hb dL_law_743 (by decide) (fun _ => kk _ _ _ _ hR1 h2) (fun q => absurd e0 q)
set_option maxHeartbeats 1000000 in
theorem law_16 (C : LC p s args m meth c b L xs GX GM) (hR : Rl σ μ) (h : LWS s GX GM σ μ H locs) (ht : t + 6 ≤ L) (hL : L ≤ 3072) (hRR : 100 ≤ R.frames ∧ 1000 ≤ R.locals) (hf : cells ≤ R.cells ∧ slots ≤ R.slots) (hls : ls.size = 4) (hl : lv_has ls 4 (lLoc b GX GM (nI t)))
    (kk : ∀ (σ1 μ1 : Mem) (H1 : Heap) (locs1 : List Loc), Rl σ1 μ1 → LWS s GX GM σ1 μ1 H1 locs1 → W p l e R s m args below meth c H1 locs1 cells slots Q (F0 m 1342 ls [])) : W p l e R s m args below meth c H locs cells slots Q (F0 m 748 ls []) := by
  have hx := C.1.1
  have hb := C.1.2.1
  have hA := op_lace hR (xs (t + 1))
  refine lv_aload_n hx hb dL_law_748 rfl (lv_at hl 2 rfl) ?_
  refine lArg C h (j := 1) rfl (by omega) hL hl dL_law_749 dL_law_750 dL_law_751 dL_law_752 dL_law_753 ?_
  refine lXi C h (As := [.int (xs (t + 1))]) rfl (c_X7_lace GX l σ (k := (xs (t + 1))) (hp := Rl_PO hR)) kw_X7_lace hd_X7_lace rfl ⟨rfl, rfl⟩ ⟨Nat.le_trans (by decide) hRR.1, Nat.le_trans (by decide) hRR.2⟩ hf hls rfl dL_law_754 (fun r7 σ1 H7 L7 p7 h1 => ?_)
  refine lv_aload_n hx hb dL_law_757 rfl (lv_at hl 1 rfl) ?_
  refine lArg C h1 (j := 1) rfl (by omega) hL hl dL_law_758 dL_law_759 dL_law_760 dL_law_761 dL_law_762 ?_
  refine lMi C h1 (As := [.int (xs (t + 1))]) rfl (c_X8_lace GM l μ (k := (xs (t + 1))) (hpb := hR.1.2.1) (hd := hR.2.2.2.1.2.1)) kw_X8_lace hd_X8_lace rfl ⟨rfl, rfl⟩ ⟨Nat.le_trans (by decide) hRR.1, Nat.le_trans (by decide) hRR.2⟩ hf hls rfl dL_law_763 (fun r8 μ1 H8 L8 p8 h2 => ?_)
  have e0 : r7 = r8 := p7.1.trans (hA.1.trans p8.1.symm)
  have hR1 : Rl σ1 μ1 := by rw [p7.2, p8.2]; exact hA.2
  exact lv_icmp_eq (tgt := 1342) hx hb dL_law_766 (by decide) (fun _ => kk _ _ _ _ hR1 h2) (fun q => absurd e0 q)
set_option maxHeartbeats 1000000 in
theorem law_17 (C : LC p s args m meth c b L xs GX GM) (hR : Rl σ μ) (h : LWS s GX GM σ μ H locs) (ht : t + 6 ≤ L) (hL : L ≤ 3072) (hRR : 100 ≤ R.frames ∧ 1000 ≤ R.locals) (hf : cells ≤ R.cells ∧ slots ≤ R.slots) (hls : ls.size = 4) (hl : lv_has ls 4 (lLoc b GX GM (nI t)))
    (kk : ∀ (σ1 μ1 : Mem) (H1 : Heap) (locs1 : List Loc), Rl σ1 μ1 → LWS s GX GM σ1 μ1 H1 locs1 → W p l e R s m args below meth c H1 locs1 cells slots Q (F0 m 1342 ls [])) : W p l e R s m args below meth c H locs cells slots Q (F0 m 771 ls []) := by
  have hx := C.1.1
  have hb := C.1.2.1
  have hA := op_stone hR 
  refine lv_aload_n hx hb dL_law_771 rfl (lv_at hl 2 rfl) ?_
  refine lXi C h (As := []) rfl (c_X7_stone GX l σ (hp := Rl_PO hR)) kw_X7_stone hd_X7_stone rfl ⟨rfl, rfl⟩ ⟨Nat.le_trans (by decide) hRR.1, Nat.le_trans (by decide) hRR.2⟩ hf hls rfl dL_law_772 (fun r7 σ1 H7 L7 p7 h1 => ?_)
  refine lv_aload_n hx hb dL_law_775 rfl (lv_at hl 1 rfl) ?_
  refine lMi C h1 (As := []) rfl (c_X8_stone GM l μ (hpb := hR.1.2.1) (hd := hR.2.2.2.1.2.1)) kw_X8_stone hd_X8_stone rfl ⟨rfl, rfl⟩ ⟨Nat.le_trans (by decide) hRR.1, Nat.le_trans (by decide) hRR.2⟩ hf hls rfl dL_law_776 (fun r8 μ1 H8 L8 p8 h2 => ?_)
  have e0 : r7 = r8 := p7.1.trans (hA.1.trans p8.1.symm)
  have hR1 : Rl σ1 μ1 := by rw [p7.2, p8.2]; exact hA.2
  exact lv_icmp_eq (tgt := 1342) hx hb dL_law_779 (by decide) (fun _ => kk _ _ _ _ hR1 h2) (fun q => absurd e0 q)
set_option maxHeartbeats 1000000 in
theorem law_18 (C : LC p s args m meth c b L xs GX GM) (hR : Rl σ μ) (h : LWS s GX GM σ μ H locs) (ht : t + 6 ≤ L) (hL : L ≤ 3072) (hRR : 100 ≤ R.frames ∧ 1000 ≤ R.locals) (hf : cells ≤ R.cells ∧ slots ≤ R.slots) (hls : ls.size = 4) (hl : lv_has ls 4 (lLoc b GX GM (nI t)))
    (kk : ∀ (σ1 μ1 : Mem) (H1 : Heap) (locs1 : List Loc), Rl σ1 μ1 → LWS s GX GM σ1 μ1 H1 locs1 → W p l e R s m args below meth c H1 locs1 cells slots Q (F0 m 1342 ls [])) : W p l e R s m args below meth c H locs cells slots Q (F0 m 784 ls []) := by
  have hx := C.1.1
  have hb := C.1.2.1
  have hA := op_year hR 
  refine lv_aload_n hx hb dL_law_784 rfl (lv_at hl 2 rfl) ?_
  refine lXi C h (As := []) rfl (c_X7_year GX l σ (hp := Rl_PO hR)) kw_X7_year hd_X7_year rfl ⟨rfl, rfl⟩ ⟨Nat.le_trans (by decide) hRR.1, Nat.le_trans (by decide) hRR.2⟩ hf hls rfl dL_law_785 (fun r7 σ1 H7 L7 p7 h1 => ?_)
  refine lv_aload_n hx hb dL_law_788 rfl (lv_at hl 1 rfl) ?_
  refine lMi C h1 (As := []) rfl (c_X8_year GM l μ (hpb := hR.1.2.1) (hd := hR.2.2.2.1.2.1)) kw_X8_year hd_X8_year rfl ⟨rfl, rfl⟩ ⟨Nat.le_trans (by decide) hRR.1, Nat.le_trans (by decide) hRR.2⟩ hf hls rfl dL_law_789 (fun r8 μ1 H8 L8 p8 h2 => ?_)
  have e0 : r7 = r8 := p7.1.trans (hA.1.trans p8.1.symm)
  have hR1 : Rl σ1 μ1 := by rw [p7.2, p8.2]; exact hA.2
  exact lv_icmp_eq (tgt := 1342) hx hb dL_law_792 (by decide) (fun _ => kk _ _ _ _ hR1 h2) (fun q => absurd e0 q)
set_option maxHeartbeats 1000000 in
theorem law_19 (C : LC p s args m meth c b L xs GX GM) (hR : Rl σ μ) (h : LWS s GX GM σ μ H locs) (ht : t + 6 ≤ L) (hL : L ≤ 3072) (hRR : 100 ≤ R.frames ∧ 1000 ≤ R.locals) (hf : cells ≤ R.cells ∧ slots ≤ R.slots) (hls : ls.size = 4) (hl : lv_has ls 4 (lLoc b GX GM (nI t)))
    (kk : ∀ (σ1 μ1 : Mem) (H1 : Heap) (locs1 : List Loc), Rl σ1 μ1 → LWS s GX GM σ1 μ1 H1 locs1 → W p l e R s m args below meth c H1 locs1 cells slots Q (F0 m 1342 ls [])) : W p l e R s m args below meth c H locs cells slots Q (F0 m 797 ls []) := by
  have hx := C.1.1
  have hb := C.1.2.1
  have hA := op_undo hR (xs (t + 1))
  refine lv_aload_n hx hb dL_law_797 rfl (lv_at hl 2 rfl) ?_
  refine lArg C h (j := 1) rfl (by omega) hL hl dL_law_798 dL_law_799 dL_law_800 dL_law_801 dL_law_802 ?_
  refine lXi C h (As := [.int (xs (t + 1))]) rfl (c_X7_undo GX l σ (n := (xs (t + 1))) (hp := Rl_PO hR)) kw_X7_undo hd_X7_undo rfl ⟨rfl, rfl⟩ ⟨Nat.le_trans (by decide) hRR.1, Nat.le_trans (by decide) hRR.2⟩ hf hls rfl dL_law_803 (fun r7 σ1 H7 L7 p7 h1 => ?_)
  refine lv_aload_n hx hb dL_law_806 rfl (lv_at hl 1 rfl) ?_
  refine lArg C h1 (j := 1) rfl (by omega) hL hl dL_law_807 dL_law_808 dL_law_809 dL_law_810 dL_law_811 ?_
  refine lMi C h1 (As := [.int (xs (t + 1))]) rfl (c_X8_undo GM l μ (n := (xs (t + 1))) (hd := hR.2.2.2.1.2.1)) kw_X8_undo hd_X8_undo rfl ⟨rfl, rfl⟩ ⟨Nat.le_trans (by decide) hRR.1, Nat.le_trans (by decide) hRR.2⟩ hf hls rfl dL_law_812 (fun r8 μ1 H8 L8 p8 h2 => ?_)
  have e0 : r7 = r8 := p7.1.trans (hA.1.trans p8.1.symm)
  have hR1 : Rl σ1 μ1 := by rw [p7.2, p8.2]; exact hA.2
  exact lv_icmp_eq (tgt := 1342) hx hb dL_law_815 (by decide) (fun _ => kk _ _ _ _ hR1 h2) (fun q => absurd e0 q)
set_option maxHeartbeats 1000000 in
theorem law_20 (C : LC p s args m meth c b L xs GX GM) (hR : Rl σ μ) (h : LWS s GX GM σ μ H locs) (ht : t + 6 ≤ L) (hL : L ≤ 3072) (hRR : 100 ≤ R.frames ∧ 1000 ≤ R.locals) (hf : cells ≤ R.cells ∧ slots ≤ R.slots) (hls : ls.size = 4) (hl : lv_has ls 4 (lLoc b GX GM (nI t)))
    (kk : ∀ (σ1 μ1 : Mem) (H1 : Heap) (locs1 : List Loc), Rl σ1 μ1 → LWS s GX GM σ1 μ1 H1 locs1 → W p l e R s m args below meth c H1 locs1 cells slots Q (F0 m 1342 ls [])) : W p l e R s m args below meth c H locs cells slots Q (F0 m 820 ls []) := by
  have hx := C.1.1
  have hb := C.1.2.1
  have hA := op_keep hR (xs (t + 1))
  refine lv_aload_n hx hb dL_law_820 rfl (lv_at hl 2 rfl) ?_
  refine lArg C h (j := 1) rfl (by omega) hL hl dL_law_821 dL_law_822 dL_law_823 dL_law_824 dL_law_825 ?_
  refine lXi C h (As := [.int (xs (t + 1))]) rfl (c_X7_keep GX l σ (ro := (xs (t + 1)))) kw_X7_keep hd_X7_keep rfl ⟨rfl, rfl⟩ ⟨Nat.le_trans (by decide) hRR.1, Nat.le_trans (by decide) hRR.2⟩ hf hls rfl dL_law_826 (fun r7 σ1 H7 L7 p7 h1 => ?_)
  refine lv_aload_n hx hb dL_law_829 rfl (lv_at hl 1 rfl) ?_
  refine lArg C h1 (j := 1) rfl (by omega) hL hl dL_law_830 dL_law_831 dL_law_832 dL_law_833 dL_law_834 ?_
  refine lMi C h1 (As := [.int (xs (t + 1))]) rfl (c_X8_keep GM l μ (k := (xs (t + 1)))) kw_X8_keep hd_X8_keep rfl ⟨rfl, rfl⟩ ⟨Nat.le_trans (by decide) hRR.1, Nat.le_trans (by decide) hRR.2⟩ hf hls rfl dL_law_835 (fun r8 μ1 H8 L8 p8 h2 => ?_)
  have e0 : r7 = r8 := p7.1.trans (hA.1.trans p8.1.symm)
  have hR1 : Rl σ1 μ1 := by rw [p7.2, p8.2]; exact hA.2
  exact lv_icmp_eq (tgt := 1342) hx hb dL_law_838 (by decide) (fun _ => kk _ _ _ _ hR1 h2) (fun q => absurd e0 q)
set_option maxHeartbeats 1000000 in
theorem law_21 (C : LC p s args m meth c b L xs GX GM) (hR : Rl σ μ) (h : LWS s GX GM σ μ H locs) (ht : t + 6 ≤ L) (hL : L ≤ 3072) (hRR : 100 ≤ R.frames ∧ 1000 ≤ R.locals) (hf : cells ≤ R.cells ∧ slots ≤ R.slots) (hls : ls.size = 4) (hl : lv_has ls 4 (lLoc b GX GM (nI t)))
    (kk : ∀ (σ1 μ1 : Mem) (H1 : Heap) (locs1 : List Loc), Rl σ1 μ1 → LWS s GX GM σ1 μ1 H1 locs1 → W p l e R s m args below meth c H1 locs1 cells slots Q (F0 m 1342 ls [])) : W p l e R s m args below meth c H locs cells slots Q (F0 m 843 ls []) := by
  have hx := C.1.1
  have hb := C.1.2.1
  have hA := op_on hR (xs (t + 1))
  refine lv_aload_n hx hb dL_law_843 rfl (lv_at hl 2 rfl) ?_
  refine lArg C h (j := 1) rfl (by omega) hL hl dL_law_844 dL_law_845 dL_law_846 dL_law_847 dL_law_848 ?_
  refine lXi C h (As := [.int (xs (t + 1))]) rfl (c_X7_on GX l σ (ro := (xs (t + 1))) (hp := Rl_PO hR)) kw_X7_on hd_X7_on rfl ⟨rfl, rfl⟩ ⟨Nat.le_trans (by decide) hRR.1, Nat.le_trans (by decide) hRR.2⟩ hf hls rfl dL_law_849 (fun r7 σ1 H7 L7 p7 h1 => ?_)
  refine lv_aload_n hx hb dL_law_852 rfl (lv_at hl 1 rfl) ?_
  refine lArg C h1 (j := 1) rfl (by omega) hL hl dL_law_853 dL_law_854 dL_law_855 dL_law_856 dL_law_857 ?_
  refine lMi C h1 (As := [.int (xs (t + 1))]) rfl (c_X8_on GM l μ (k := (xs (t + 1)))) kw_X8_on hd_X8_on rfl ⟨rfl, rfl⟩ ⟨Nat.le_trans (by decide) hRR.1, Nat.le_trans (by decide) hRR.2⟩ hf hls rfl dL_law_858 (fun r8 μ1 H8 L8 p8 h2 => ?_)
  have e0 : r7 = r8 := p7.1.trans (hA.1.trans p8.1.symm)
  have hR1 : Rl σ1 μ1 := by rw [p7.2, p8.2]; exact hA.2
  exact lv_icmp_eq (tgt := 1342) hx hb dL_law_861 (by decide) (fun _ => kk _ _ _ _ hR1 h2) (fun q => absurd e0 q)
set_option maxHeartbeats 1000000 in
theorem law_22 (C : LC p s args m meth c b L xs GX GM) (hR : Rl σ μ) (h : LWS s GX GM σ μ H locs) (ht : t + 6 ≤ L) (hL : L ≤ 3072) (hRR : 100 ≤ R.frames ∧ 1000 ≤ R.locals) (hf : cells ≤ R.cells ∧ slots ≤ R.slots) (hls : ls.size = 4) (hl : lv_has ls 4 (lLoc b GX GM (nI t)))
    (kk : ∀ (σ1 μ1 : Mem) (H1 : Heap) (locs1 : List Loc), Rl σ1 μ1 → LWS s GX GM σ1 μ1 H1 locs1 → W p l e R s m args below meth c H1 locs1 cells slots Q (F0 m 1342 ls [])) : W p l e R s m args below meth c H locs cells slots Q (F0 m 866 ls []) := by
  have hx := C.1.1
  have hb := C.1.2.1
  have hA := op_holds hR 
  refine lv_aload_n hx hb dL_law_866 rfl (lv_at hl 2 rfl) ?_
  refine lXi C h (As := []) rfl (c_X7_holds GX l σ (hp := Rl_PO hR)) kw_X7_holds hd_X7_holds rfl ⟨rfl, rfl⟩ ⟨Nat.le_trans (by decide) hRR.1, Nat.le_trans (by decide) hRR.2⟩ hf hls rfl dL_law_867 (fun r7 σ1 H7 L7 p7 h1 => ?_)
  refine lv_aload_n hx hb dL_law_870 rfl (lv_at hl 1 rfl) ?_
  refine lMi C h1 (As := []) rfl (c_X8_holds GM l μ (hpb := hR.1.2.1)) kw_X8_holds hd_X8_holds rfl ⟨rfl, rfl⟩ ⟨Nat.le_trans (by decide) hRR.1, Nat.le_trans (by decide) hRR.2⟩ hf hls rfl dL_law_871 (fun r8 μ1 H8 L8 p8 h2 => ?_)
  have e0 : r7 = r8 := p7.1.trans (hA.1.trans p8.1.symm)
  have hR1 : Rl σ1 μ1 := by rw [p7.2, p8.2]; exact hA.2
  exact lv_icmp_eq (tgt := 1342) hx hb dL_law_874 (by decide) (fun _ => kk _ _ _ _ hR1 h2) (fun q => absurd e0 q)
set_option maxHeartbeats 1000000 in
theorem law_23 (C : LC p s args m meth c b L xs GX GM) (hR : Rl σ μ) (h : LWS s GX GM σ μ H locs) (ht : t + 6 ≤ L) (hL : L ≤ 3072) (hRR : 100 ≤ R.frames ∧ 1000 ≤ R.locals) (hf : cells ≤ R.cells ∧ slots ≤ R.slots) (hls : ls.size = 4) (hl : lv_has ls 4 (lLoc b GX GM (nI t)))
    (kk : ∀ (σ1 μ1 : Mem) (H1 : Heap) (locs1 : List Loc), Rl σ1 μ1 → LWS s GX GM σ1 μ1 H1 locs1 → W p l e R s m args below meth c H1 locs1 cells slots Q (F0 m 1342 ls [])) : W p l e R s m args below meth c H locs cells slots Q (F0 m 879 ls []) := by
  have hx := C.1.1
  have hb := C.1.2.1
  have hA := op_gives hR (xs (t + 1))
  refine lv_aload_n hx hb dL_law_879 rfl (lv_at hl 2 rfl) ?_
  refine lArg C h (j := 1) rfl (by omega) hL hl dL_law_880 dL_law_881 dL_law_882 dL_law_883 dL_law_884 ?_
  refine lXi C h (As := [.int (xs (t + 1))]) rfl (c_X7_gives GX l σ (k := (xs (t + 1))) (hp := Rl_PO hR)) kw_X7_gives hd_X7_gives rfl ⟨rfl, rfl⟩ ⟨Nat.le_trans (by decide) hRR.1, Nat.le_trans (by decide) hRR.2⟩ hf hls rfl dL_law_885 (fun r7 σ1 H7 L7 p7 h1 => ?_)
  refine lv_aload_n hx hb dL_law_888 rfl (lv_at hl 1 rfl) ?_
  refine lArg C h1 (j := 1) rfl (by omega) hL hl dL_law_889 dL_law_890 dL_law_891 dL_law_892 dL_law_893 ?_
  refine lMi C h1 (As := [.int (xs (t + 1))]) rfl (c_X8_gives GM l μ (k := (xs (t + 1))) (hpb := hR.1.2.1)) kw_X8_gives hd_X8_gives rfl ⟨rfl, rfl⟩ ⟨Nat.le_trans (by decide) hRR.1, Nat.le_trans (by decide) hRR.2⟩ hf hls rfl dL_law_894 (fun r8 μ1 H8 L8 p8 h2 => ?_)
  have e0 : r7 = r8 := p7.1.trans (hA.1.trans p8.1.symm)
  have hR1 : Rl σ1 μ1 := by rw [p7.2, p8.2]; exact hA.2
  exact lv_icmp_eq (tgt := 1342) hx hb dL_law_897 (by decide) (fun _ => kk _ _ _ _ hR1 h2) (fun q => absurd e0 q)
set_option maxHeartbeats 1000000 in
theorem law_24 (C : LC p s args m meth c b L xs GX GM) (hR : Rl σ μ) (h : LWS s GX GM σ μ H locs) (ht : t + 6 ≤ L) (hL : L ≤ 3072) (hRR : 100 ≤ R.frames ∧ 1000 ≤ R.locals) (hf : cells ≤ R.cells ∧ slots ≤ R.slots) (hls : ls.size = 4) (hl : lv_has ls 4 (lLoc b GX GM (nI t)))
    (kk : ∀ (σ1 μ1 : Mem) (H1 : Heap) (locs1 : List Loc), Rl σ1 μ1 → LWS s GX GM σ1 μ1 H1 locs1 → W p l e R s m args below meth c H1 locs1 cells slots Q (F0 m 1342 ls [])) : W p l e R s m args below meth c H locs cells slots Q (F0 m 902 ls []) := by
  have hx := C.1.1
  have hb := C.1.2.1
  have hA := op_later hR (xs (t + 1))
  refine lv_aload_n hx hb dL_law_902 rfl (lv_at hl 2 rfl) ?_
  refine lArg C h (j := 1) rfl (by omega) hL hl dL_law_903 dL_law_904 dL_law_905 dL_law_906 dL_law_907 ?_
  refine lXi C h (As := [.int (xs (t + 1))]) rfl (c_X7_later GX l σ (n := (xs (t + 1))) (hp := Rl_PO hR)) kw_X7_later hd_X7_later rfl ⟨rfl, rfl⟩ ⟨Nat.le_trans (by decide) hRR.1, Nat.le_trans (by decide) hRR.2⟩ hf hls rfl dL_law_908 (fun r7 σ1 H7 L7 p7 h1 => ?_)
  refine lv_aload_n hx hb dL_law_911 rfl (lv_at hl 1 rfl) ?_
  refine lArg C h1 (j := 1) rfl (by omega) hL hl dL_law_912 dL_law_913 dL_law_914 dL_law_915 dL_law_916 ?_
  refine lMi C h1 (As := [.int (xs (t + 1))]) rfl (c_X8_later GM l μ (n := (xs (t + 1))) (hpb := hR.1.2.1) (hsv := SV_of hR)) kw_X8_later hd_X8_later rfl ⟨rfl, rfl⟩ ⟨Nat.le_trans (by decide) hRR.1, Nat.le_trans (by decide) hRR.2⟩ hf hls rfl dL_law_917 (fun r8 μ1 H8 L8 p8 h2 => ?_)
  have e0 : r7 = r8 := p7.1.trans (hA.1.trans p8.1.symm)
  have hR1 : Rl σ1 μ1 := by rw [p7.2, p8.2]; exact hA.2
  exact lv_icmp_eq (tgt := 1342) hx hb dL_law_920 (by decide) (fun _ => kk _ _ _ _ hR1 h2) (fun q => absurd e0 q)
set_option maxHeartbeats 1000000 in
theorem law_25 (C : LC p s args m meth c b L xs GX GM) (hR : Rl σ μ) (h : LWS s GX GM σ μ H locs) (ht : t + 6 ≤ L) (hL : L ≤ 3072) (hRR : 100 ≤ R.frames ∧ 1000 ≤ R.locals) (hf : cells ≤ R.cells ∧ slots ≤ R.slots) (hls : ls.size = 4) (hl : lv_has ls 4 (lLoc b GX GM (nI t)))
    (kk : ∀ (σ1 μ1 : Mem) (H1 : Heap) (locs1 : List Loc), Rl σ1 μ1 → LWS s GX GM σ1 μ1 H1 locs1 → W p l e R s m args below meth c H1 locs1 cells slots Q (F0 m 1342 ls [])) : W p l e R s m args below meth c H locs cells slots Q (F0 m 925 ls []) := by
  have hx := C.1.1
  have hb := C.1.2.1
  have hA := op_best hR (xs (t + 1))
  refine lv_aload_n hx hb dL_law_925 rfl (lv_at hl 2 rfl) ?_
  refine lArg C h (j := 1) rfl (by omega) hL hl dL_law_926 dL_law_927 dL_law_928 dL_law_929 dL_law_930 ?_
  refine lXi C h (As := [.int (xs (t + 1))]) rfl (c_X7_best GX l σ (ro := (xs (t + 1))) (hp := Rl_PO hR)) kw_X7_best hd_X7_best rfl ⟨rfl, rfl⟩ ⟨Nat.le_trans (by decide) hRR.1, Nat.le_trans (by decide) hRR.2⟩ hf hls rfl dL_law_931 (fun r7 σ1 H7 L7 p7 h1 => ?_)
  refine lv_aload_n hx hb dL_law_934 rfl (lv_at hl 1 rfl) ?_
  refine lArg C h1 (j := 1) rfl (by omega) hL hl dL_law_935 dL_law_936 dL_law_937 dL_law_938 dL_law_939 ?_
  refine lMi C h1 (As := [.int (xs (t + 1))]) rfl (c_X8_best GM l μ (ro := (xs (t + 1))) (hpb := hR.1.2.1)) kw_X8_best hd_X8_best rfl ⟨rfl, rfl⟩ ⟨Nat.le_trans (by decide) hRR.1, Nat.le_trans (by decide) hRR.2⟩ hf hls rfl dL_law_940 (fun r8 μ1 H8 L8 p8 h2 => ?_)
  have e0 : r7 = r8 := p7.1.trans (hA.1.trans p8.1.symm)
  have hR1 : Rl σ1 μ1 := by rw [p7.2, p8.2]; exact hA.2
  exact lv_icmp_eq (tgt := 1342) hx hb dL_law_943 (by decide) (fun _ => kk _ _ _ _ hR1 h2) (fun q => absurd e0 q)
set_option maxHeartbeats 1000000 in
theorem law_26 (C : LC p s args m meth c b L xs GX GM) (hR : Rl σ μ) (h : LWS s GX GM σ μ H locs) (ht : t + 6 ≤ L) (hL : L ≤ 3072) (hRR : 100 ≤ R.frames ∧ 1000 ≤ R.locals) (hf : cells ≤ R.cells ∧ slots ≤ R.slots) (hls : ls.size = 4) (hl : lv_has ls 4 (lLoc b GX GM (nI t)))
    (kk : ∀ (σ1 μ1 : Mem) (H1 : Heap) (locs1 : List Loc), Rl σ1 μ1 → LWS s GX GM σ1 μ1 H1 locs1 → W p l e R s m args below meth c H1 locs1 cells slots Q (F0 m 1342 ls [])) : W p l e R s m args below meth c H locs cells slots Q (F0 m 948 ls []) := by
  have hx := C.1.1
  have hb := C.1.2.1
  have hA := op_fewest hR 
  refine lv_aload_n hx hb dL_law_948 rfl (lv_at hl 2 rfl) ?_
  refine lXi C h (As := []) rfl (c_X7_fewest GX l σ (hp := Rl_PO hR)) kw_X7_fewest hd_X7_fewest rfl ⟨rfl, rfl⟩ ⟨Nat.le_trans (by decide) hRR.1, Nat.le_trans (by decide) hRR.2⟩ hf hls rfl dL_law_949 (fun r7 σ1 H7 L7 p7 h1 => ?_)
  refine lv_aload_n hx hb dL_law_952 rfl (lv_at hl 1 rfl) ?_
  refine lMi C h1 (As := []) rfl (c_X8_fewest GM l μ (hpb := hR.1.2.1)) kw_X8_fewest hd_X8_fewest rfl ⟨rfl, rfl⟩ ⟨Nat.le_trans (by decide) hRR.1, Nat.le_trans (by decide) hRR.2⟩ hf hls rfl dL_law_953 (fun r8 μ1 H8 L8 p8 h2 => ?_)
  have e0 : r7 = r8 := p7.1.trans (hA.1.trans p8.1.symm)
  have hR1 : Rl σ1 μ1 := by rw [p7.2, p8.2]; exact hA.2
  exact lv_icmp_eq (tgt := 1342) hx hb dL_law_956 (by decide) (fun _ => kk _ _ _ _ hR1 h2) (fun q => absurd e0 q)
set_option maxHeartbeats 1000000 in
theorem law_27 (C : LC p s args m meth c b L xs GX GM) (hR : Rl σ μ) (h : LWS s GX GM σ μ H locs) (ht : t + 6 ≤ L) (hL : L ≤ 3072) (hRR : 100 ≤ R.frames ∧ 1000 ≤ R.locals) (hf : cells ≤ R.cells ∧ slots ≤ R.slots) (hls : ls.size = 4) (hl : lv_has ls 4 (lLoc b GX GM (nI t)))
    (kk : ∀ (σ1 μ1 : Mem) (H1 : Heap) (locs1 : List Loc), Rl σ1 μ1 → LWS s GX GM σ1 μ1 H1 locs1 → W p l e R s m args below meth c H1 locs1 cells slots Q (F0 m 1342 ls [])) : W p l e R s m args below meth c H locs cells slots Q (F0 m 961 ls []) := by
  have hx := C.1.1
  have hb := C.1.2.1
  have hA := op_seated hR (xs (t + 1))
  refine lv_aload_n hx hb dL_law_961 rfl (lv_at hl 2 rfl) ?_
  refine lArg C h (j := 1) rfl (by omega) hL hl dL_law_962 dL_law_963 dL_law_964 dL_law_965 dL_law_966 ?_
  refine lXi C h (As := [.int (xs (t + 1))]) rfl (c_X7_seated GX l σ (ro := (xs (t + 1))) (hp := Rl_PO hR)) kw_X7_seated hd_X7_seated rfl ⟨rfl, rfl⟩ ⟨Nat.le_trans (by decide) hRR.1, Nat.le_trans (by decide) hRR.2⟩ hf hls rfl dL_law_967 (fun r7 σ1 H7 L7 p7 h1 => ?_)
  refine lv_aload_n hx hb dL_law_970 rfl (lv_at hl 1 rfl) ?_
  refine lArg C h1 (j := 1) rfl (by omega) hL hl dL_law_971 dL_law_972 dL_law_973 dL_law_974 dL_law_975 ?_
  refine lMi C h1 (As := [.int (xs (t + 1))]) rfl (c_X8_seated GM l μ (ro := (xs (t + 1))) (hpb := hR.1.2.1) (hrm := Rl_RM hR)) kw_X8_seated hd_X8_seated rfl ⟨rfl, rfl⟩ ⟨Nat.le_trans (by decide) hRR.1, Nat.le_trans (by decide) hRR.2⟩ hf hls rfl dL_law_976 (fun r8 μ1 H8 L8 p8 h2 => ?_)
  have e0 : r7 = r8 := p7.1.trans (hA.1.trans p8.1.symm)
  have hR1 : Rl σ1 μ1 := by rw [p7.2, p8.2]; exact hA.2
  exact lv_icmp_eq (tgt := 1342) hx hb dL_law_979 (by decide) (fun _ => kk _ _ _ _ hR1 h2) (fun q => absurd e0 q)
set_option maxHeartbeats 1000000 in
theorem law_28 (C : LC p s args m meth c b L xs GX GM) (hR : Rl σ μ) (h : LWS s GX GM σ μ H locs) (ht : t + 6 ≤ L) (hL : L ≤ 3072) (hRR : 100 ≤ R.frames ∧ 1000 ≤ R.locals) (hf : cells ≤ R.cells ∧ slots ≤ R.slots) (hls : ls.size = 4) (hl : lv_has ls 4 (lLoc b GX GM (nI t)))
    (kk : ∀ (σ1 μ1 : Mem) (H1 : Heap) (locs1 : List Loc), Rl σ1 μ1 → LWS s GX GM σ1 μ1 H1 locs1 → W p l e R s m args below meth c H1 locs1 cells slots Q (F0 m 1342 ls [])) : W p l e R s m args below meth c H locs cells slots Q (F0 m 984 ls []) := by
  have hx := C.1.1
  have hb := C.1.2.1
  have hA := op_laces hR (xs (t + 1)) (xs (t + 2))
  refine lv_aload_n hx hb dL_law_984 rfl (lv_at hl 2 rfl) ?_
  refine lArg C h (j := 1) rfl (by omega) hL hl dL_law_985 dL_law_986 dL_law_987 dL_law_988 dL_law_989 ?_
  refine lArg C h (j := 2) rfl (by omega) hL hl dL_law_990 dL_law_991 dL_law_992 dL_law_993 dL_law_994 ?_
  refine lXi C h (As := [.int (xs (t + 1)), .int (xs (t + 2))]) rfl (c_X7_laces GX l σ (n := (xs (t + 1))) (ro := (xs (t + 2))) (hp := Rl_PO hR)) kw_X7_laces hd_X7_laces rfl ⟨rfl, rfl⟩ ⟨Nat.le_trans (by decide) hRR.1, Nat.le_trans (by decide) hRR.2⟩ hf hls rfl dL_law_995 (fun r7 σ1 H7 L7 p7 h1 => ?_)
  refine lv_aload_n hx hb dL_law_998 rfl (lv_at hl 1 rfl) ?_
  refine lArg C h1 (j := 1) rfl (by omega) hL hl dL_law_999 dL_law_1000 dL_law_1001 dL_law_1002 dL_law_1003 ?_
  refine lArg C h1 (j := 2) rfl (by omega) hL hl dL_law_1004 dL_law_1005 dL_law_1006 dL_law_1007 dL_law_1008 ?_
  refine lMi C h1 (As := [.int (xs (t + 1)), .int (xs (t + 2))]) rfl (c_X8_laces GM l μ (n := (xs (t + 1))) (ro := (xs (t + 2))) (hpb := hR.1.2.1)) kw_X8_laces hd_X8_laces rfl ⟨rfl, rfl⟩ ⟨Nat.le_trans (by decide) hRR.1, Nat.le_trans (by decide) hRR.2⟩ hf hls rfl dL_law_1009 (fun r8 μ1 H8 L8 p8 h2 => ?_)
  have e0 : r7 = r8 := p7.1.trans (hA.1.trans p8.1.symm)
  have hR1 : Rl σ1 μ1 := by rw [p7.2, p8.2]; exact hA.2
  exact lv_icmp_eq (tgt := 1342) hx hb dL_law_1012 (by decide) (fun _ => kk _ _ _ _ hR1 h2) (fun q => absurd e0 q)
set_option maxHeartbeats 1000000 in
theorem law_29 (C : LC p s args m meth c b L xs GX GM) (hR : Rl σ μ) (h : LWS s GX GM σ μ H locs) (ht : t + 6 ≤ L) (hL : L ≤ 3072) (hRR : 100 ≤ R.frames ∧ 1000 ≤ R.locals) (hf : cells ≤ R.cells ∧ slots ≤ R.slots) (hls : ls.size = 4) (hl : lv_has ls 4 (lLoc b GX GM (nI t)))
    (kk : ∀ (σ1 μ1 : Mem) (H1 : Heap) (locs1 : List Loc), Rl σ1 μ1 → LWS s GX GM σ1 μ1 H1 locs1 → W p l e R s m args below meth c H1 locs1 cells slots Q (F0 m 1342 ls [])) : W p l e R s m args below meth c H locs cells slots Q (F0 m 1017 ls []) := by
  have hx := C.1.1
  have hb := C.1.2.1
  have hA := op_strengths hR (xs (t + 1)) (xs (t + 2))
  refine lv_aload_n hx hb dL_law_1017 rfl (lv_at hl 2 rfl) ?_
  refine lArg C h (j := 1) rfl (by omega) hL hl dL_law_1018 dL_law_1019 dL_law_1020 dL_law_1021 dL_law_1022 ?_
  refine lArg C h (j := 2) rfl (by omega) hL hl dL_law_1023 dL_law_1024 dL_law_1025 dL_law_1026 dL_law_1027 ?_
  refine lXi C h (As := [.int (xs (t + 1)), .int (xs (t + 2))]) rfl (c_X7_strengths GX l σ (k := (xs (t + 1))) (ro := (xs (t + 2))) (hz := Rl_RZ hR)) kw_X7_strengths hd_X7_strengths rfl ⟨rfl, rfl⟩ ⟨Nat.le_trans (by decide) hRR.1, Nat.le_trans (by decide) hRR.2⟩ hf hls rfl dL_law_1028 (fun r7 σ1 H7 L7 p7 h1 => ?_)
  refine lv_aload_n hx hb dL_law_1031 rfl (lv_at hl 1 rfl) ?_
  refine lArg C h1 (j := 1) rfl (by omega) hL hl dL_law_1032 dL_law_1033 dL_law_1034 dL_law_1035 dL_law_1036 ?_
  refine lArg C h1 (j := 2) rfl (by omega) hL hl dL_law_1037 dL_law_1038 dL_law_1039 dL_law_1040 dL_law_1041 ?_
  refine lMi C h1 (As := [.int (xs (t + 1)), .int (xs (t + 2))]) rfl (c_X8_strengths GM l μ (k := (xs (t + 1))) (ro := (xs (t + 2))) (hpb := hR.1.2.1) (hrm := Rl_RM hR)) kw_X8_strengths hd_X8_strengths rfl ⟨rfl, rfl⟩ ⟨Nat.le_trans (by decide) hRR.1, Nat.le_trans (by decide) hRR.2⟩ hf hls rfl dL_law_1042 (fun r8 μ1 H8 L8 p8 h2 => ?_)
  have e0 : r7 = r8 := p7.1.trans (hA.1.trans p8.1.symm)
  have hR1 : Rl σ1 μ1 := by rw [p7.2, p8.2]; exact hA.2
  exact lv_icmp_eq (tgt := 1342) hx hb dL_law_1045 (by decide) (fun _ => kk _ _ _ _ hR1 h2) (fun q => absurd e0 q)
set_option maxHeartbeats 1000000 in
theorem law_30 (C : LC p s args m meth c b L xs GX GM) (hR : Rl σ μ) (h : LWS s GX GM σ μ H locs) (ht : t + 6 ≤ L) (hL : L ≤ 3072) (hRR : 100 ≤ R.frames ∧ 1000 ≤ R.locals) (hf : cells ≤ R.cells ∧ slots ≤ R.slots) (hls : ls.size = 4) (hl : lv_has ls 4 (lLoc b GX GM (nI t)))
    (kk : ∀ (σ1 μ1 : Mem) (H1 : Heap) (locs1 : List Loc), Rl σ1 μ1 → LWS s GX GM σ1 μ1 H1 locs1 → W p l e R s m args below meth c H1 locs1 cells slots Q (F0 m 1342 ls [])) : W p l e R s m args below meth c H locs cells slots Q (F0 m 1050 ls []) := by
  have hx := C.1.1
  have hb := C.1.2.1
  have hA := op_kinds hR (xs (t + 1)) (xs (t + 2))
  refine lv_aload_n hx hb dL_law_1050 rfl (lv_at hl 2 rfl) ?_
  refine lArg C h (j := 1) rfl (by omega) hL hl dL_law_1051 dL_law_1052 dL_law_1053 dL_law_1054 dL_law_1055 ?_
  refine lArg C h (j := 2) rfl (by omega) hL hl dL_law_1056 dL_law_1057 dL_law_1058 dL_law_1059 dL_law_1060 ?_
  refine lXi C h (As := [.int (xs (t + 1)), .int (xs (t + 2))]) rfl (c_X7_kinds GX l σ (k := (xs (t + 1))) (ro := (xs (t + 2))) (hz := Rl_RZ hR)) kw_X7_kinds hd_X7_kinds rfl ⟨rfl, rfl⟩ ⟨Nat.le_trans (by decide) hRR.1, Nat.le_trans (by decide) hRR.2⟩ hf hls rfl dL_law_1061 (fun r7 σ1 H7 L7 p7 h1 => ?_)
  refine lv_aload_n hx hb dL_law_1064 rfl (lv_at hl 1 rfl) ?_
  refine lArg C h1 (j := 1) rfl (by omega) hL hl dL_law_1065 dL_law_1066 dL_law_1067 dL_law_1068 dL_law_1069 ?_
  refine lArg C h1 (j := 2) rfl (by omega) hL hl dL_law_1070 dL_law_1071 dL_law_1072 dL_law_1073 dL_law_1074 ?_
  refine lMi C h1 (As := [.int (xs (t + 1)), .int (xs (t + 2))]) rfl (c_X8_kinds GM l μ (k := (xs (t + 1))) (ro := (xs (t + 2))) (hpb := hR.1.2.1) (hrm := Rl_RM hR)) kw_X8_kinds hd_X8_kinds rfl ⟨rfl, rfl⟩ ⟨Nat.le_trans (by decide) hRR.1, Nat.le_trans (by decide) hRR.2⟩ hf hls rfl dL_law_1075 (fun r8 μ1 H8 L8 p8 h2 => ?_)
  have e0 : r7 = r8 := p7.1.trans (hA.1.trans p8.1.symm)
  have hR1 : Rl σ1 μ1 := by rw [p7.2, p8.2]; exact hA.2
  exact lv_icmp_eq (tgt := 1342) hx hb dL_law_1078 (by decide) (fun _ => kk _ _ _ _ hR1 h2) (fun q => absurd e0 q)
set_option maxHeartbeats 1000000 in
theorem law_31 (C : LC p s args m meth c b L xs GX GM) (hR : Rl σ μ) (h : LWS s GX GM σ μ H locs) (ht : t + 6 ≤ L) (hL : L ≤ 3072) (hRR : 100 ≤ R.frames ∧ 1000 ≤ R.locals) (hf : cells ≤ R.cells ∧ slots ≤ R.slots) (hls : ls.size = 4) (hl : lv_has ls 4 (lLoc b GX GM (nI t)))
    (kk : ∀ (σ1 μ1 : Mem) (H1 : Heap) (locs1 : List Loc), Rl σ1 μ1 → LWS s GX GM σ1 μ1 H1 locs1 → W p l e R s m args below meth c H1 locs1 cells slots Q (F0 m 1342 ls [])) : W p l e R s m args below meth c H locs cells slots Q (F0 m 1083 ls []) := by
  have hx := C.1.1
  have hb := C.1.2.1
  have hA := op_test hR (xs (t + 1)) (xs (t + 2))
  refine lv_aload_n hx hb dL_law_1083 rfl (lv_at hl 2 rfl) ?_
  refine lArg C h (j := 1) rfl (by omega) hL hl dL_law_1084 dL_law_1085 dL_law_1086 dL_law_1087 dL_law_1088 ?_
  refine lArg C h (j := 2) rfl (by omega) hL hl dL_law_1089 dL_law_1090 dL_law_1091 dL_law_1092 dL_law_1093 ?_
  refine lXi C h (As := [.int (xs (t + 1)), .int (xs (t + 2))]) rfl (c_X7_test GX l σ (k := (xs (t + 1))) (ro := (xs (t + 2))) (hp := Rl_PO hR) (hz := Rl_RZ hR)) kw_X7_test hd_X7_test rfl ⟨rfl, rfl⟩ ⟨Nat.le_trans (by decide) hRR.1, Nat.le_trans (by decide) hRR.2⟩ hf hls rfl dL_law_1094 (fun r7 σ1 H7 L7 p7 h1 => ?_)
  refine lv_aload_n hx hb dL_law_1097 rfl (lv_at hl 1 rfl) ?_
  refine lArg C h1 (j := 1) rfl (by omega) hL hl dL_law_1098 dL_law_1099 dL_law_1100 dL_law_1101 dL_law_1102 ?_
  refine lArg C h1 (j := 2) rfl (by omega) hL hl dL_law_1103 dL_law_1104 dL_law_1105 dL_law_1106 dL_law_1107 ?_
  refine lMi C h1 (As := [.int (xs (t + 1)), .int (xs (t + 2))]) rfl (c_X8_test GM l μ (k := (xs (t + 1))) (ro := (xs (t + 2))) (hpb := hR.1.2.1) (hrm := Rl_RM hR)) kw_X8_test hd_X8_test rfl ⟨rfl, rfl⟩ ⟨Nat.le_trans (by decide) hRR.1, Nat.le_trans (by decide) hRR.2⟩ hf hls rfl dL_law_1108 (fun r8 μ1 H8 L8 p8 h2 => ?_)
  have e0 : r7 = r8 := p7.1.trans (hA.1.trans p8.1.symm)
  have hR1 : Rl σ1 μ1 := by rw [p7.2, p8.2]; exact hA.2
  exact lv_icmp_eq (tgt := 1342) hx hb dL_law_1111 (by decide) (fun _ => kk _ _ _ _ hR1 h2) (fun q => absurd e0 q)
set_option maxHeartbeats 1000000 in
theorem law_32 (C : LC p s args m meth c b L xs GX GM) (hR : Rl σ μ) (h : LWS s GX GM σ μ H locs) (ht : t + 6 ≤ L) (hL : L ≤ 3072) (hRR : 100 ≤ R.frames ∧ 1000 ≤ R.locals) (hf : cells ≤ R.cells ∧ slots ≤ R.slots) (hls : ls.size = 4) (hl : lv_has ls 4 (lLoc b GX GM (nI t)))
    (kk : ∀ (σ1 μ1 : Mem) (H1 : Heap) (locs1 : List Loc), Rl σ1 μ1 → LWS s GX GM σ1 μ1 H1 locs1 → W p l e R s m args below meth c H1 locs1 cells slots Q (F0 m 1342 ls [])) : W p l e R s m args below meth c H locs cells slots Q (F0 m 1116 ls []) := by
  have hx := C.1.1
  have hb := C.1.2.1
  obtain ⟨F, res, hpl, hA⟩ := op_duel hR (xs (t + 1))
  refine lv_aload_n hx hb dL_law_1116 rfl (lv_at hl 2 rfl) ?_
  refine lArg C h (j := 1) rfl (by omega) hL hl dL_law_1117 dL_law_1118 dL_law_1119 dL_law_1120 dL_law_1121 ?_
  refine lXi C h (As := [.int (xs (t + 1))]) rfl (c_X7_duel GX l σ (n := (xs (t + 1))) (hp := Rl_PO hR)) kw_X7_duel hd_X7_duel rfl ⟨rfl, rfl⟩ ⟨Nat.le_trans (by decide) hRR.1, Nat.le_trans (by decide) hRR.2⟩ hf hls rfl dL_law_1122 (fun r7 σ1 H7 L7 p7 h1 => ?_)
  refine lv_aload_n hx hb dL_law_1125 rfl (lv_at hl 1 rfl) ?_
  refine lArg C h1 (j := 1) rfl (by omega) hL hl dL_law_1126 dL_law_1127 dL_law_1128 dL_law_1129 dL_law_1130 ?_
  refine lMi C h1 (As := [.int (xs (t + 1))]) rfl (c_X8_duel GM l μ (n := (xs (t + 1))) (hpb := hR.1.2.1) (hsv := SV_of hR) (F := F) (res := res) (hpl := hpl)) kw_X8_duel hd_X8_duel rfl ⟨rfl, rfl⟩ ⟨Nat.le_trans (by decide) hRR.1, Nat.le_trans (by decide) hRR.2⟩ hf hls rfl dL_law_1131 (fun r8 μ1 H8 L8 p8 h2 => ?_)
  have e0 : r7 = r8 := p7.1.trans (hA.1.trans p8.1.symm)
  have hR1 : Rl σ1 μ1 := by rw [p7.2, p8.2]; exact hA.2
  exact lv_icmp_eq (tgt := 1342) hx hb dL_law_1134 (by decide) (fun _ => kk _ _ _ _ hR1 h2) (fun q => absurd e0 q)
set_option maxHeartbeats 1000000 in
theorem law_33 (C : LC p s args m meth c b L xs GX GM) (hR : Rl σ μ) (h : LWS s GX GM σ μ H locs) (ht : t + 6 ≤ L) (hL : L ≤ 3072) (hRR : 100 ≤ R.frames ∧ 1000 ≤ R.locals) (hf : cells ≤ R.cells ∧ slots ≤ R.slots) (hls : ls.size = 4) (hl : lv_has ls 4 (lLoc b GX GM (nI t)))
    (kk : ∀ (σ1 μ1 : Mem) (H1 : Heap) (locs1 : List Loc), Rl σ1 μ1 → LWS s GX GM σ1 μ1 H1 locs1 → W p l e R s m args below meth c H1 locs1 cells slots Q (F0 m 1342 ls [])) : W p l e R s m args below meth c H locs cells slots Q (F0 m 1139 ls []) := by
  have hx := C.1.1
  have hb := C.1.2.1
  have hA := op_odds hR (xs (t + 1)) (xs (t + 2))
  refine lv_aload_n hx hb dL_law_1139 rfl (lv_at hl 2 rfl) ?_
  refine lArg C h (j := 1) rfl (by omega) hL hl dL_law_1140 dL_law_1141 dL_law_1142 dL_law_1143 dL_law_1144 ?_
  refine lArg C h (j := 2) rfl (by omega) hL hl dL_law_1145 dL_law_1146 dL_law_1147 dL_law_1148 dL_law_1149 ?_
  refine lXi C h (As := [.int (xs (t + 1)), .int (xs (t + 2))]) rfl (c_X7_odds GX l σ (i := (xs (t + 1))) (pp := (xs (t + 2))) (hp := Rl_PO hR)) kw_X7_odds hd_X7_odds rfl ⟨rfl, rfl⟩ ⟨Nat.le_trans (by decide) hRR.1, Nat.le_trans (by decide) hRR.2⟩ hf hls rfl dL_law_1150 (fun r7 σ1 H7 L7 p7 h1 => ?_)
  refine lv_aload_n hx hb dL_law_1153 rfl (lv_at hl 1 rfl) ?_
  refine lArg C h1 (j := 1) rfl (by omega) hL hl dL_law_1154 dL_law_1155 dL_law_1156 dL_law_1157 dL_law_1158 ?_
  refine lArg C h1 (j := 2) rfl (by omega) hL hl dL_law_1159 dL_law_1160 dL_law_1161 dL_law_1162 dL_law_1163 ?_
  refine lMi C h1 (As := [.int (xs (t + 1)), .int (xs (t + 2))]) rfl (c_X8_odds GM l μ (i := (xs (t + 1))) (pp := (xs (t + 2))) (hpb := hR.1.2.1) (hsv := SV_of hR)) kw_X8_odds hd_X8_odds rfl ⟨rfl, rfl⟩ ⟨Nat.le_trans (by decide) hRR.1, Nat.le_trans (by decide) hRR.2⟩ hf hls rfl dL_law_1164 (fun r8 μ1 H8 L8 p8 h2 => ?_)
  have e0 : r7 = r8 := p7.1.trans (hA.1.trans p8.1.symm)
  have hR1 : Rl σ1 μ1 := by rw [p7.2, p8.2]; exact hA.2
  exact lv_icmp_eq (tgt := 1342) hx hb dL_law_1167 (by decide) (fun _ => kk _ _ _ _ hR1 h2) (fun q => absurd e0 q)
set_option maxHeartbeats 1000000 in
theorem law_34 (C : LC p s args m meth c b L xs GX GM) (hR : Rl σ μ) (h : LWS s GX GM σ μ H locs) (ht : t + 6 ≤ L) (hL : L ≤ 3072) (hRR : 100 ≤ R.frames ∧ 1000 ≤ R.locals) (hf : cells ≤ R.cells ∧ slots ≤ R.slots) (hls : ls.size = 4) (hl : lv_has ls 4 (lLoc b GX GM (nI t)))
    (kk : ∀ (σ1 μ1 : Mem) (H1 : Heap) (locs1 : List Loc), Rl σ1 μ1 → LWS s GX GM σ1 μ1 H1 locs1 → W p l e R s m args below meth c H1 locs1 cells slots Q (F0 m 1342 ls [])) : W p l e R s m args below meth c H locs cells slots Q (F0 m 1172 ls []) := by
  have hx := C.1.1
  have hb := C.1.2.1
  have hA := op_mid hR (xs (t + 1))
  refine lv_aload_n hx hb dL_law_1172 rfl (lv_at hl 2 rfl) ?_
  refine lArg C h (j := 1) rfl (by omega) hL hl dL_law_1173 dL_law_1174 dL_law_1175 dL_law_1176 dL_law_1177 ?_
  refine lXi C h (As := [.int (xs (t + 1))]) rfl (c_X7_mid GX l σ (pp := (xs (t + 1))) (hp := Rl_PO hR)) kw_X7_mid hd_X7_mid rfl ⟨rfl, rfl⟩ ⟨Nat.le_trans (by decide) hRR.1, Nat.le_trans (by decide) hRR.2⟩ hf hls rfl dL_law_1178 (fun r7 σ1 H7 L7 p7 h1 => ?_)
  refine lv_aload_n hx hb dL_law_1181 rfl (lv_at hl 1 rfl) ?_
  refine lArg C h1 (j := 1) rfl (by omega) hL hl dL_law_1182 dL_law_1183 dL_law_1184 dL_law_1185 dL_law_1186 ?_
  refine lMi C h1 (As := [.int (xs (t + 1))]) rfl (c_X8_mid GM l μ (pp := (xs (t + 1))) (hpb := hR.1.2.1) (hsv := SV_of hR) (hw := fun q0 q1 => (mid_w hR q0 q1).1)) kw_X8_mid hd_X8_mid rfl ⟨rfl, rfl⟩ ⟨Nat.le_trans (by decide) hRR.1, Nat.le_trans (by decide) hRR.2⟩ hf hls rfl dL_law_1187 (fun r8 μ1 H8 L8 p8 h2 => ?_)
  have e0 : r7 = r8 := p7.1.trans (hA.1.trans p8.1.symm)
  have hR1 : Rl σ1 μ1 := by rw [p7.2, p8.2]; exact hA.2
  exact lv_icmp_eq (tgt := 1342) hx hb dL_law_1190 (by decide) (fun _ => kk _ _ _ _ hR1 h2) (fun q => absurd e0 q)
set_option maxHeartbeats 1000000 in
theorem law_35 (C : LC p s args m meth c b L xs GX GM) (hR : Rl σ μ) (h : LWS s GX GM σ μ H locs) (ht : t + 6 ≤ L) (hL : L ≤ 3072) (hRR : 100 ≤ R.frames ∧ 1000 ≤ R.locals) (hf : cells ≤ R.cells ∧ slots ≤ R.slots) (hls : ls.size = 4) (hl : lv_has ls 4 (lLoc b GX GM (nI t)))
    (kk : ∀ (σ1 μ1 : Mem) (H1 : Heap) (locs1 : List Loc), Rl σ1 μ1 → LWS s GX GM σ1 μ1 H1 locs1 → W p l e R s m args below meth c H1 locs1 cells slots Q (F0 m 1342 ls [])) : W p l e R s m args below meth c H locs cells slots Q (F0 m 1195 ls []) := by
  have hx := C.1.1
  have hb := C.1.2.1
  have hA := op_lots hR (xs (t + 1)) (xs (t + 2))
  refine lv_aload_n hx hb dL_law_1195 rfl (lv_at hl 2 rfl) ?_
  refine lArg C h (j := 1) rfl (by omega) hL hl dL_law_1196 dL_law_1197 dL_law_1198 dL_law_1199 dL_law_1200 ?_
  refine lArg C h (j := 2) rfl (by omega) hL hl dL_law_1201 dL_law_1202 dL_law_1203 dL_law_1204 dL_law_1205 ?_
  refine lXi C h (As := [.int (xs (t + 1)), .int (xs (t + 2))]) rfl (c_X7_lots GX l σ (n := (xs (t + 1))) (seed := (xs (t + 2))) (hp := Rl_PO hR)) kw_X7_lots hd_X7_lots rfl ⟨rfl, rfl⟩ ⟨Nat.le_trans (by decide) hRR.1, Nat.le_trans (by decide) hRR.2⟩ hf hls rfl dL_law_1206 (fun r7 σ1 H7 L7 p7 h1 => ?_)
  refine lv_aload_n hx hb dL_law_1209 rfl (lv_at hl 1 rfl) ?_
  refine lArg C h1 (j := 1) rfl (by omega) hL hl dL_law_1210 dL_law_1211 dL_law_1212 dL_law_1213 dL_law_1214 ?_
  refine lArg C h1 (j := 2) rfl (by omega) hL hl dL_law_1215 dL_law_1216 dL_law_1217 dL_law_1218 dL_law_1219 ?_
  refine lMi C h1 (As := [.int (xs (t + 1)), .int (xs (t + 2))]) rfl (c_X8_lots GM l μ (n := (xs (t + 1))) (seed := (xs (t + 2))) (hpb := hR.1.2.1) (hsv := SV_of hR) (hd := hR.2.2.2.1.2.1) (hpp := hR.1.2.2.2)) kw_X8_lots hd_X8_lots rfl ⟨rfl, rfl⟩ ⟨Nat.le_trans (by decide) hRR.1, Nat.le_trans (by decide) hRR.2⟩ hf hls rfl dL_law_1220 (fun r8 μ1 H8 L8 p8 h2 => ?_)
  have e0 : r7 = r8 := p7.1.trans (hA.1.trans p8.1.symm)
  have hR1 : Rl σ1 μ1 := by rw [p7.2, p8.2]; exact hA.2
  exact lv_icmp_eq (tgt := 1342) hx hb dL_law_1223 (by decide) (fun _ => kk _ _ _ _ hR1 h2) (fun q => absurd e0 q)
set_option maxHeartbeats 1000000 in
theorem law_36 (C : LC p s args m meth c b L xs GX GM) (hR : Rl σ μ) (h : LWS s GX GM σ μ H locs) (ht : t + 6 ≤ L) (hL : L ≤ 3072) (hRR : 100 ≤ R.frames ∧ 1000 ≤ R.locals) (hf : cells ≤ R.cells ∧ slots ≤ R.slots) (hls : ls.size = 4) (hl : lv_has ls 4 (lLoc b GX GM (nI t)))
    (kk : ∀ (σ1 μ1 : Mem) (H1 : Heap) (locs1 : List Loc), Rl σ1 μ1 → LWS s GX GM σ1 μ1 H1 locs1 → W p l e R s m args below meth c H1 locs1 cells slots Q (F0 m 1342 ls [])) : W p l e R s m args below meth c H locs cells slots Q (F0 m 1228 ls []) := by
  have hx := C.1.1
  have hb := C.1.2.1
  refine lv_aload_n hx hb dL_law_1228 rfl (lv_at hl 2 rfl) ?_
  refine lXi C h (As := []) rfl (c_X7_asked GX l σ ) kw_X7_asked hd_X7_asked rfl ⟨rfl, rfl⟩ ⟨Nat.le_trans (by decide) hRR.1, Nat.le_trans (by decide) hRR.2⟩ hf hls rfl dL_law_1229 (fun r7 σ1 H7 L7 p7 h1 => ?_)
  refine lv_aload_n hx hb dL_law_1232 rfl (lv_at hl 1 rfl) ?_
  refine lMi C h1 (As := []) rfl (c_X8_asked GM l μ ) kw_X8_asked hd_X8_asked rfl ⟨rfl, rfl⟩ ⟨Nat.le_trans (by decide) hRR.1, Nat.le_trans (by decide) hRR.2⟩ hf hls rfl dL_law_1233 (fun r8 μ1 H8 L8 p8 h2 => ?_)
  have e0 : r7 = r8 := p7.1.trans ((op_asked hR ).trans p8.1.symm)
  have hR1 : Rl σ1 μ1 := by rw [p7.2, p8.2]; exact hR
  exact lv_icmp_eq (tgt := 1342) hx hb dL_law_1236 (by decide) (fun _ => kk _ _ _ _ hR1 h2) (fun q => absurd e0 q)
set_option maxHeartbeats 1000000 in
theorem law_37 (C : LC p s args m meth c b L xs GX GM) (hR : Rl σ μ) (h : LWS s GX GM σ μ H locs) (ht : t + 6 ≤ L) (hL : L ≤ 3072) (hRR : 100 ≤ R.frames ∧ 1000 ≤ R.locals) (hf : cells ≤ R.cells ∧ slots ≤ R.slots) (hls : ls.size = 4) (hl : lv_has ls 4 (lLoc b GX GM (nI t)))
    (kk : ∀ (σ1 μ1 : Mem) (H1 : Heap) (locs1 : List Loc), Rl σ1 μ1 → LWS s GX GM σ1 μ1 H1 locs1 → W p l e R s m args below meth c H1 locs1 cells slots Q (F0 m 1342 ls [])) : W p l e R s m args below meth c H locs cells slots Q (F0 m 1241 ls []) := by
  have hx := C.1.1
  have hb := C.1.2.1
  refine lv_aload_n hx hb dL_law_1241 rfl (lv_at hl 2 rfl) ?_
  refine lXl C h rfl (c_X7_upper GX l σ ) kw_X7_upper hd_X7_upper ⟨rfl, rfl⟩ ⟨Nat.le_trans (by decide) hRR.1, Nat.le_trans (by decide) hRR.2⟩ hf hls dL_law_1242 (fun r7 σ1 H7 L7 p7 h1 => ?_)
  refine lv_aload_n hx hb dL_law_1245 rfl (lv_at hl 1 rfl) ?_
  refine lMl C h1 rfl (c_X8_upper GM l μ ) kw_X8_upper hd_X8_upper ⟨rfl, rfl⟩ ⟨Nat.le_trans (by decide) hRR.1, Nat.le_trans (by decide) hRR.2⟩ hf hls dL_law_1246 (fun r8 μ1 H8 L8 p8 h2 => ?_)
  have e0 : r7 = r8 := p7.1.trans ((op_upper hR ).trans p8.1.symm)
  have hR1 : Rl σ1 μ1 := by rw [p7.2, p8.2]; exact hR
  refine W.lcmp hx hb dL_law_1249 ?_
  exact l_if_eq (tgt := 1342) hx hb e0 dL_law_1250 (by decide) (kk _ _ _ _ hR1 h2)
set_option maxHeartbeats 1000000 in
theorem law_38 (C : LC p s args m meth c b L xs GX GM) (hR : Rl σ μ) (h : LWS s GX GM σ μ H locs) (ht : t + 6 ≤ L) (hL : L ≤ 3072) (hRR : 100 ≤ R.frames ∧ 1000 ≤ R.locals) (hf : cells ≤ R.cells ∧ slots ≤ R.slots) (hls : ls.size = 4) (hl : lv_has ls 4 (lLoc b GX GM (nI t)))
    (kk : ∀ (σ1 μ1 : Mem) (H1 : Heap) (locs1 : List Loc), Rl σ1 μ1 → LWS s GX GM σ1 μ1 H1 locs1 → W p l e R s m args below meth c H1 locs1 cells slots Q (F0 m 1342 ls [])) : W p l e R s m args below meth c H locs cells slots Q (F0 m 1255 ls []) := by
  have hx := C.1.1
  have hb := C.1.2.1
  refine lv_aload_n hx hb dL_law_1255 rfl (lv_at hl 2 rfl) ?_
  refine lXl C h rfl (c_X7_lower GX l σ ) kw_X7_lower hd_X7_lower ⟨rfl, rfl⟩ ⟨Nat.le_trans (by decide) hRR.1, Nat.le_trans (by decide) hRR.2⟩ hf hls dL_law_1256 (fun r7 σ1 H7 L7 p7 h1 => ?_)
  refine lv_aload_n hx hb dL_law_1259 rfl (lv_at hl 1 rfl) ?_
  refine lMl C h1 rfl (c_X8_lower GM l μ ) kw_X8_lower hd_X8_lower ⟨rfl, rfl⟩ ⟨Nat.le_trans (by decide) hRR.1, Nat.le_trans (by decide) hRR.2⟩ hf hls dL_law_1260 (fun r8 μ1 H8 L8 p8 h2 => ?_)
  have e0 : r7 = r8 := p7.1.trans ((op_lower hR ).trans p8.1.symm)
  have hR1 : Rl σ1 μ1 := by rw [p7.2, p8.2]; exact hR
  refine W.lcmp hx hb dL_law_1263 ?_
  exact l_if_eq (tgt := 1342) hx hb e0 dL_law_1264 (by decide) (kk _ _ _ _ hR1 h2)
set_option maxHeartbeats 1000000 in
theorem law_39 (C : LC p s args m meth c b L xs GX GM) (hR : Rl σ μ) (h : LWS s GX GM σ μ H locs) (ht : t + 6 ≤ L) (hL : L ≤ 3072) (hRR : 100 ≤ R.frames ∧ 1000 ≤ R.locals) (hf : cells ≤ R.cells ∧ slots ≤ R.slots) (hls : ls.size = 4) (hl : lv_has ls 4 (lLoc b GX GM (nI t)))
    (kk : ∀ (σ1 μ1 : Mem) (H1 : Heap) (locs1 : List Loc), Rl σ1 μ1 → LWS s GX GM σ1 μ1 H1 locs1 → W p l e R s m args below meth c H1 locs1 cells slots Q (F0 m 1342 ls [])) : W p l e R s m args below meth c H locs cells slots Q (F0 m 1269 ls []) := by
  have hx := C.1.1
  have hb := C.1.2.1
  refine lv_aload_n hx hb dL_law_1269 rfl (lv_at hl 2 rfl) ?_
  refine lArg C h (j := 1) rfl (by omega) hL hl dL_law_1270 dL_law_1271 dL_law_1272 dL_law_1273 dL_law_1274 ?_
  refine lXi C h (As := [.int (xs (t + 1))]) rfl (c_X7_count GX l σ (what := (xs (t + 1))) (hp := Rl_PO hR)) kw_X7_count hd_X7_count rfl ⟨rfl, rfl⟩ ⟨Nat.le_trans (by decide) hRR.1, Nat.le_trans (by decide) hRR.2⟩ hf hls rfl dL_law_1275 (fun r7 σ1 H7 L7 p7 h1 => ?_)
  refine lv_aload_n hx hb dL_law_1278 rfl (lv_at hl 1 rfl) ?_
  refine lArg C h1 (j := 1) rfl (by omega) hL hl dL_law_1279 dL_law_1280 dL_law_1281 dL_law_1282 dL_law_1283 ?_
  refine lMi C h1 (As := [.int (xs (t + 1))]) rfl (c_X8_count GM l μ (what := (xs (t + 1))) (P := pM μ) (hpb := hR.1.2.1) (hPV := rfl) (hsv := SV_of hR)) kw_X8_count hd_X8_count rfl ⟨rfl, rfl⟩ ⟨Nat.le_trans (by decide) hRR.1, Nat.le_trans (by decide) hRR.2⟩ hf hls rfl dL_law_1284 (fun r8 μ1 H8 L8 p8 h2 => ?_)
  have e0 : r7 = r8 := p7.1.trans ((op_count hR (xs (t + 1))).trans p8.1.symm)
  have hR1 : Rl σ1 μ1 := by rw [p7.2, p8.2]; exact hR
  exact lv_icmp_eq (tgt := 1342) hx hb dL_law_1287 (by decide) (fun _ => kk _ _ _ _ hR1 h2) (fun q => absurd e0 q)
set_option maxHeartbeats 1000000 in
theorem law_40 (C : LC p s args m meth c b L xs GX GM) (hR : Rl σ μ) (h : LWS s GX GM σ μ H locs) (ht : t + 6 ≤ L) (hL : L ≤ 3072) (hRR : 100 ≤ R.frames ∧ 1000 ≤ R.locals) (hf : cells ≤ R.cells ∧ slots ≤ R.slots) (hls : ls.size = 4) (hl : lv_has ls 4 (lLoc b GX GM (nI t)))
    (kk : ∀ (σ1 μ1 : Mem) (H1 : Heap) (locs1 : List Loc), Rl σ1 μ1 → LWS s GX GM σ1 μ1 H1 locs1 → W p l e R s m args below meth c H1 locs1 cells slots Q (F0 m 1342 ls [])) : W p l e R s m args below meth c H locs cells slots Q (F0 m 1292 ls []) := by
  have hx := C.1.1
  have hb := C.1.2.1
  refine lv_aload_n hx hb dL_law_1292 rfl (lv_at hl 2 rfl) ?_
  refine lXi C h (As := []) rfl (c_X7_finding GX l σ ) kw_X7_finding hd_X7_finding rfl ⟨rfl, rfl⟩ ⟨Nat.le_trans (by decide) hRR.1, Nat.le_trans (by decide) hRR.2⟩ hf hls rfl dL_law_1293 (fun r7 σ1 H7 L7 p7 h1 => ?_)
  refine lv_aload_n hx hb dL_law_1296 rfl (lv_at hl 1 rfl) ?_
  refine lMi C h1 (As := []) rfl (c_X8_finding GM l μ ) kw_X8_finding hd_X8_finding rfl ⟨rfl, rfl⟩ ⟨Nat.le_trans (by decide) hRR.1, Nat.le_trans (by decide) hRR.2⟩ hf hls rfl dL_law_1297 (fun r8 μ1 H8 L8 p8 h2 => ?_)
  have e0 : r7 = r8 := p7.1.trans ((op_finding hR ).trans p8.1.symm)
  have hR1 : Rl σ1 μ1 := by rw [p7.2, p8.2]; exact hR
  exact lv_icmp_eq (tgt := 1342) hx hb dL_law_1300 (by decide) (fun _ => kk _ _ _ _ hR1 h2) (fun q => absurd e0 q)
set_option maxHeartbeats 1000000 in
theorem law_41 (C : LC p s args m meth c b L xs GX GM) (hR : Rl σ μ) (h : LWS s GX GM σ μ H locs) (ht : t + 6 ≤ L) (hL : L ≤ 3072) (hRR : 100 ≤ R.frames ∧ 1000 ≤ R.locals) (hf : cells ≤ R.cells ∧ slots ≤ R.slots) (hls : ls.size = 4) (hl : lv_has ls 4 (lLoc b GX GM (nI t)))
    (kk : ∀ (σ1 μ1 : Mem) (H1 : Heap) (locs1 : List Loc), Rl σ1 μ1 → LWS s GX GM σ1 μ1 H1 locs1 → W p l e R s m args below meth c H1 locs1 cells slots Q (F0 m 1342 ls [])) : W p l e R s m args below meth c H locs cells slots Q (F0 m 1305 ls []) := by
  have hx := C.1.1
  have hb := C.1.2.1
  refine lv_aload_n hx hb dL_law_1305 rfl (lv_at hl 2 rfl) ?_
  refine lArg C h (j := 1) rfl (by omega) hL hl dL_law_1306 dL_law_1307 dL_law_1308 dL_law_1309 dL_law_1310 ?_
  refine lXi C h (As := [.int (xs (t + 1))]) rfl (c_X7_findings GX l σ (f := (xs (t + 1)))) kw_X7_findings hd_X7_findings rfl ⟨rfl, rfl⟩ ⟨Nat.le_trans (by decide) hRR.1, Nat.le_trans (by decide) hRR.2⟩ hf hls rfl dL_law_1311 (fun r7 σ1 H7 L7 p7 h1 => ?_)
  refine lv_aload_n hx hb dL_law_1314 rfl (lv_at hl 1 rfl) ?_
  refine lArg C h1 (j := 1) rfl (by omega) hL hl dL_law_1315 dL_law_1316 dL_law_1317 dL_law_1318 dL_law_1319 ?_
  refine lMi C h1 (As := [.int (xs (t + 1))]) rfl (c_X8_findings GM l μ (f := (xs (t + 1)))) kw_X8_findings hd_X8_findings rfl ⟨rfl, rfl⟩ ⟨Nat.le_trans (by decide) hRR.1, Nat.le_trans (by decide) hRR.2⟩ hf hls rfl dL_law_1320 (fun r8 μ1 H8 L8 p8 h2 => ?_)
  have e0 : r7 = r8 := p7.1.trans ((op_findings hR (xs (t + 1))).trans p8.1.symm)
  have hR1 : Rl σ1 μ1 := by rw [p7.2, p8.2]; exact hR
  exact lv_icmp_eq (tgt := 1342) hx hb dL_law_1323 (by decide) (fun _ => kk _ _ _ _ hR1 h2) (fun q => absurd e0 q)
set_option maxHeartbeats 1000000 in
theorem law_42 (C : LC p s args m meth c b L xs GX GM) (hR : Rl σ μ) (h : LWS s GX GM σ μ H locs) (ht : t + 6 ≤ L) (hL : L ≤ 3072) (hRR : 100 ≤ R.frames ∧ 1000 ≤ R.locals) (hf : cells ≤ R.cells ∧ slots ≤ R.slots) (hls : ls.size = 4) (hl : lv_has ls 4 (lLoc b GX GM (nI t)))
    (kk : ∀ (σ1 μ1 : Mem) (H1 : Heap) (locs1 : List Loc), Rl σ1 μ1 → LWS s GX GM σ1 μ1 H1 locs1 → W p l e R s m args below meth c H1 locs1 cells slots Q (F0 m 1342 ls [])) : W p l e R s m args below meth c H locs cells slots Q (F0 m 1328 ls []) := by
  have hx := C.1.1
  have hb := C.1.2.1
  refine lv_aload_n hx hb dL_law_1328 rfl (lv_at hl 2 rfl) ?_
  refine lXl C h rfl (c_X7_digest GX l σ (hp := Rl_PO hR) (hz := Rl_RZ hR)) kw_X7_digest hd_X7_digest ⟨rfl, rfl⟩ ⟨Nat.le_trans (by decide) hRR.1, Nat.le_trans (by decide) hRR.2⟩ hf hls dL_law_1329 (fun r7 σ1 H7 L7 p7 h1 => ?_)
  refine lv_aload_n hx hb dL_law_1332 rfl (lv_at hl 1 rfl) ?_
  refine lMl C h1 rfl (c_X8_digest GM l μ (hpb := hR.1.2.1) (hsv := SV_of hR) (hrm := Rl_RM hR)) kw_X8_digest hd_X8_digest ⟨rfl, rfl⟩ ⟨Nat.le_trans (by decide) hRR.1, Nat.le_trans (by decide) hRR.2⟩ hf hls dL_law_1333 (fun r8 μ1 H8 L8 p8 h2 => ?_)
  have e0 : r7 = r8 := p7.1.trans ((op_digest hR ).trans p8.1.symm)
  have hR1 : Rl σ1 μ1 := by rw [p7.2, p8.2]; exact hR
  refine W.lcmp hx hb dL_law_1336 ?_
  exact l_if_eq (tgt := 1342) hx hb e0 dL_law_1337 (by decide) (kk _ _ _ _ hR1 h2)
end LCS
