def f_L_law_B1553 (xs : Nat → Int32) (Lz : Nat) (k18 : qW → Int32 → Option (Int32 × qW)) (w : qW) (l3 : Int32) : Option (Int32 × qW) :=
  q_bn (l3 + 6 : Int32) (fun v1 => k18 w v1)
def f_L_law_B18 (xs : Nat → Int32) (Lz : Nat) (k18 : qW → Int32 → Option (Int32 × qW)) (w : qW) (l3 : Int32) : Option (Int32 × qW) :=
  if ((Int32.ofNat Lz) - 6) < l3 then (some (1, w)) else (q_ld xs Lz l3 (fun v1 => q_bn (v1 &&& 63 : Int32) (fun v2 => if v2 = 0 then (q_ld xs Lz (l3 + 1) (fun v3 => q_ld xs Lz (l3 + 2) (fun v4 => q_cl (f_X10_man w v3 v4) (fun r5 w6 => q_ld xs Lz (l3 + 1) (fun v7 => q_ld xs Lz (l3 + 2) (fun v8 => q_cl (f_X11_man w6 v7 v8) (fun r9 w10 => if r5 = r9 then (f_L_law_B1553 xs Lz k18 w10 l3) else (some (0, w10))))))))) else (if v2 = 1 then (q_ld xs Lz (l3 + 1) (fun v12 => q_ld xs Lz (l3 + 2) (fun v13 => q_cl (f_X10_sitter w v12 v13) (fun r14 w15 => q_ld xs Lz (l3 + 1) (fun v16 => q_ld xs Lz (l3 + 2) (fun v17 => q_cl (f_X11_sitter w15 v16 v17) (fun r18 w19 => if r14 = r18 then (f_L_law_B1553 xs Lz k18 w19 l3) else (some (0, w19))))))))) else (if v2 = 2 then (q_ld xs Lz (l3 + 1) (fun v21 => q_ld xs Lz (l3 + 2) (fun v22 => q_ld xs Lz (l3 + 3) (fun v23 => q_cl (f_X10_sitters w v21 v22 v23) (fun r24 w25 => q_ld xs Lz (l3 + 1) (fun v26 => q_ld xs Lz (l3 + 2) (fun v27 => q_ld xs Lz (l3 + 3) (fun v28 => q_cl (f_X11_sitters w25 v26 v27 v28) (fun r29 w30 => if r24 = r29 then (f_L_law_B1553 xs Lz k18 w30 l3) else (some (0, w30))))))))))) else (if v2 = 3 then (q_ld xs Lz (l3 + 1) (fun v32 => q_ld xs Lz (l3 + 2) (fun v33 => q_ld xs Lz (l3 + 3) (fun v34 => q_cl (f_X10_mend w v32 v33 v34) (fun r35 w36 => q_ld xs Lz (l3 + 1) (fun v37 => q_ld xs Lz (l3 + 2) (fun v38 => q_ld xs Lz (l3 + 3) (fun v39 => q_cl (f_X11_mend w36 v37 v38 v39) (fun r40 w41 => if r35 = r40 then (f_L_law_B1553 xs Lz k18 w41 l3) else (some (0, w41))))))))))) else (if v2 = 4 then (q_ld xs Lz (l3 + 1) (fun v43 => q_ld xs Lz (l3 + 2) (fun v44 => q_cl (f_X10_of w v43 v44) (fun r45 w46 => q_ld xs Lz (l3 + 1) (fun v47 => q_ld xs Lz (l3 + 2) (fun v48 => q_cl (f_X11_of w46 v47 v48) (fun r49 w50 => if r45 = r49 then (f_L_law_B1553 xs Lz k18 w50 l3) else (some (0, w50))))))))) else (if v2 = 5 then (q_ld xs Lz (l3 + 1) (fun v52 => q_cl (f_X10_feed w v52) (fun r53 w54 => q_ld xs Lz (l3 + 1) (fun v55 => q_cl (f_X11_feed w54 v55) (fun r56 w57 => if r53 = r56 then (f_L_law_B1553 xs Lz k18 w57 l3) else (some (0, w57))))))) else (if v2 = 6 then (q_cl (f_X10_law w ) (fun r59 w60 => q_cl (f_X11_law w60 ) (fun r61 w62 => if r59 = r61 then (f_L_law_B1553 xs Lz k18 w62 l3) else (some (0, w62))))) else (if v2 = 7 then (q_ld xs Lz (l3 + 1) (fun v64 => q_ld xs Lz (l3 + 2) (fun v65 => q_cl (f_X10_shade w v64 v65) (fun r66 w67 => q_ld xs Lz (l3 + 1) (fun v68 => q_ld xs Lz (l3 + 2) (fun v69 => q_cl (f_X11_shade w67 v68 v69) (fun r70 w71 => if r66 = r70 then (f_L_law_B1553 xs Lz k18 w71 l3) else (some (0, w71))))))))) else (if v2 = 8 then (q_ld xs Lz (l3 + 1) (fun v73 => q_ld xs Lz (l3 + 2) (fun v74 => q_cl (f_X10_walk w v73 v74) (fun r75 w76 => q_ld xs Lz (l3 + 1) (fun v77 => q_ld xs Lz (l3 + 2) (fun v78 => q_cl (f_X11_walk w76 v77 v78) (fun r79 w80 => if r75 = r79 then (f_L_law_B1553 xs Lz k18 w80 l3) else (some (0, w80))))))))) else (if v2 = 9 then (q_ld xs Lz (l3 + 1) (fun v82 => q_ld xs Lz (l3 + 2) (fun v83 => q_cl (f_X10_served w v82 v83) (fun r84 w85 => q_ld xs Lz (l3 + 1) (fun v86 => q_ld xs Lz (l3 + 2) (fun v87 => q_cl (f_X11_served w85 v86 v87) (fun r88 w89 => if r84 = r88 then (f_L_law_B1553 xs Lz k18 w89 l3) else (some (0, w89))))))))) else (if v2 = 10 then (q_ld xs Lz (l3 + 1) (fun v91 => q_ld xs Lz (l3 + 2) (fun v92 => q_cl (f_X10_at w v91 v92) (fun r93 w94 => q_ld xs Lz (l3 + 1) (fun v95 => q_ld xs Lz (l3 + 2) (fun v96 => q_cl (f_X11_at w94 v95 v96) (fun r97 w98 => if r93 = r97 then (f_L_law_B1553 xs Lz k18 w98 l3) else (some (0, w98))))))))) else (if v2 = 11 then (q_ld xs Lz (l3 + 1) (fun v100 => q_cl (f_X10_enough w v100) (fun r101 w102 => q_ld xs Lz (l3 + 1) (fun v103 => q_cl (f_X11_enough w102 v103) (fun r104 w105 => if r101 = r104 then (f_L_law_B1553 xs Lz k18 w105 l3) else (some (0, w105))))))) else (if v2 = 12 then (q_ld xs Lz (l3 + 1) (fun v107 => q_cl (f_X10_roster w v107) (fun r108 w109 => q_ld xs Lz (l3 + 1) (fun v110 => q_cl (f_X11_roster w109 v110) (fun r111 w112 => if r108 = r111 then (f_L_law_B1553 xs Lz k18 w112 l3) else (some (0, w112))))))) else (if v2 = 13 then (q_ld xs Lz (l3 + 1) (fun v114 => q_ld xs Lz (l3 + 2) (fun v115 => q_cl (f_X10_oneMore w v114 v115) (fun r116 w117 => q_ld xs Lz (l3 + 1) (fun v118 => q_ld xs Lz (l3 + 2) (fun v119 => q_cl (f_X11_oneMore w117 v118 v119) (fun r120 w121 => if r116 = r120 then (f_L_law_B1553 xs Lz k18 w121 l3) else (some (0, w121))))))))) else (if v2 = 14 then (q_ld xs Lz (l3 + 1) (fun v123 => q_ld xs Lz (l3 + 2) (fun v124 => q_cl (f_X10_step w v123 v124) (fun r125 w126 => q_ld xs Lz (l3 + 1) (fun v127 => q_ld xs Lz (l3 + 2) (fun v128 => q_cl (f_X11_step w126 v127 v128) (fun r129 w130 => if r125 = r129 then (f_L_law_B1553 xs Lz k18 w130 l3) else (some (0, w130))))))))) else (if v2 = 15 then (q_ld xs Lz (l3 + 1) (fun v132 => q_ld xs Lz (l3 + 2) (fun v133 => q_cl (f_X10_judge w v132 v133) (fun r134 w135 => q_ld xs Lz (l3 + 1) (fun v136 => q_ld xs Lz (l3 + 2) (fun v137 => q_cl (f_X11_judge w135 v136 v137) (fun r138 w139 => if r134 = r138 then (f_L_law_B1553 xs Lz k18 w139 l3) else (some (0, w139))))))))) else (if v2 = 16 then (q_ld xs Lz (l3 + 1) (fun v141 => q_ld xs Lz (l3 + 2) (fun v142 => q_ld xs Lz (l3 + 3) (fun v143 => q_cl (f_X10_stood w v141 v142 v143) (fun r144 w145 => q_ld xs Lz (l3 + 1) (fun v146 => q_ld xs Lz (l3 + 2) (fun v147 => q_ld xs Lz (l3 + 3) (fun v148 => q_cl (f_X11_stood w145 v146 v147 v148) (fun r149 w150 => if r144 = r149 then (f_L_law_B1553 xs Lz k18 w150 l3) else (some (0, w150))))))))))) else (if v2 = 17 then (q_ld xs Lz (l3 + 1) (fun v152 => q_ld xs Lz (l3 + 2) (fun v153 => q_ld xs Lz (l3 + 3) (fun v154 => q_cl (f_X10_who w v152 v153 v154) (fun r155 w156 => q_ld xs Lz (l3 + 1) (fun v157 => q_ld xs Lz (l3 + 2) (fun v158 => q_ld xs Lz (l3 + 3) (fun v159 => q_cl (f_X11_who w156 v157 v158 v159) (fun r160 w161 => if r155 = r160 then (f_L_law_B1553 xs Lz k18 w161 l3) else (some (0, w161))))))))))) else (if v2 = 18 then (q_ld xs Lz (l3 + 1) (fun v163 => q_ld xs Lz (l3 + 2) (fun v164 => q_cl (f_X10_wish w v163 v164) (fun r165 w166 => q_ld xs Lz (l3 + 1) (fun v167 => q_ld xs Lz (l3 + 2) (fun v168 => q_cl (f_X11_wish w166 v167 v168) (fun r169 w170 => if r165 = r169 then (f_L_law_B1553 xs Lz k18 w170 l3) else (some (0, w170))))))))) else (if v2 = 19 then (q_ld xs Lz (l3 + 1) (fun v172 => q_ld xs Lz (l3 + 2) (fun v173 => q_cl (f_X10_share w v172 v173) (fun r174 w175 => q_ld xs Lz (l3 + 1) (fun v176 => q_ld xs Lz (l3 + 2) (fun v177 => q_cl (f_X11_share w175 v176 v177) (fun r178 w179 => if r174 = r178 then (f_L_law_B1553 xs Lz k18 w179 l3) else (some (0, w179))))))))) else (if v2 = 20 then (q_ld xs Lz (l3 + 1) (fun v181 => q_ld xs Lz (l3 + 2) (fun v182 => q_cl (f_X10_late w v181 v182) (fun r183 w184 => q_ld xs Lz (l3 + 1) (fun v185 => q_ld xs Lz (l3 + 2) (fun v186 => q_cl (f_X11_late w184 v185 v186) (fun r187 w188 => if r183 = r187 then (f_L_law_B1553 xs Lz k18 w188 l3) else (some (0, w188))))))))) else (if v2 = 21 then (q_ld xs Lz (l3 + 1) (fun v190 => q_ld xs Lz (l3 + 2) (fun v191 => q_ld xs Lz (l3 + 3) (fun v192 => q_cl (f_X10_byTurns w v190 v191 v192) (fun r193 w194 => q_ld xs Lz (l3 + 1) (fun v195 => q_ld xs Lz (l3 + 2) (fun v196 => q_ld xs Lz (l3 + 3) (fun v197 => q_cl (f_X11_byTurns w194 v195 v196 v197) (fun r198 w199 => if r193 = r198 then (f_L_law_B1553 xs Lz k18 w199 l3) else (some (0, w199))))))))))) else (if v2 = 22 then (q_ld xs Lz (l3 + 1) (fun v201 => q_ld xs Lz (l3 + 2) (fun v202 => q_ld xs Lz (l3 + 3) (fun v203 => q_cl (f_X10_drawn w v201 v202 v203) (fun r204 w205 => q_ld xs Lz (l3 + 1) (fun v206 => q_ld xs Lz (l3 + 2) (fun v207 => q_ld xs Lz (l3 + 3) (fun v208 => q_cl (f_X11_drawn w205 v206 v207 v208) (fun r209 w210 => if r204 = r209 then (f_L_law_B1553 xs Lz k18 w210 l3) else (some (0, w210))))))))))) else (if v2 = 23 then (q_cl (f_X10_passes w ) (fun r212 w213 => q_cl (f_X11_passes w213 ) (fun r214 w215 => if r212 = r214 then (f_L_law_B1553 xs Lz k18 w215 l3) else (some (0, w215))))) else (if v2 = 24 then (q_ld xs Lz (l3 + 1) (fun v217 => q_ld xs Lz (l3 + 2) (fun v218 => q_cl (f_X10_steps w v217 v218) (fun r219 w220 => q_ld xs Lz (l3 + 1) (fun v221 => q_ld xs Lz (l3 + 2) (fun v222 => q_cl (f_X11_steps w220 v221 v222) (fun r223 w224 => if r219 = r223 then (f_L_law_B1553 xs Lz k18 w224 l3) else (some (0, w224))))))))) else (if v2 = 25 then (q_ld xs Lz (l3 + 1) (fun v226 => q_cl (f_X10_bird w v226) (fun r227 w228 => q_ld xs Lz (l3 + 1) (fun v229 => q_cl (f_X11_bird w228 v229) (fun r230 w231 => if r227 = r230 then (f_L_law_B1553 xs Lz k18 w231 l3) else (some (0, w231))))))) else (if v2 = 26 then (q_ld xs Lz (l3 + 1) (fun v233 => q_ld xs Lz (l3 + 2) (fun v234 => q_cl (f_X10_goes w v233 v234) (fun r235 w236 => q_ld xs Lz (l3 + 1) (fun v237 => q_ld xs Lz (l3 + 2) (fun v238 => q_cl (f_X11_goes w236 v237 v238) (fun r239 w240 => if r235 = r239 then (f_L_law_B1553 xs Lz k18 w240 l3) else (some (0, w240))))))))) else (if v2 = 27 then (q_ld xs Lz (l3 + 1) (fun v242 => q_cl (f_X10_led w v242) (fun r243 w244 => q_ld xs Lz (l3 + 1) (fun v245 => q_cl (f_X11_led w244 v245) (fun r246 w247 => if r243 = r246 then (f_L_law_B1553 xs Lz k18 w247 l3) else (some (0, w247))))))) else (if v2 = 28 then (q_cl (f_X10_image w ) (fun r249 w250 => q_cl (f_X11_image w250 ) (fun r251 w252 => if r249 = r251 then (f_L_law_B1553 xs Lz k18 w252 l3) else (some (0, w252))))) else (if v2 = 29 then (q_cl (f_X10_back w ) (fun r254 w255 => q_cl (f_X11_back w255 ) (fun r256 w257 => if r254 = r256 then (f_L_law_B1553 xs Lz k18 w257 l3) else (some (0, w257))))) else (if v2 = 30 then (q_cl (f_X10_undo w ) (fun r259 w260 => q_cl (f_X11_undo w260 ) (fun r261 w262 => if r259 = r261 then (f_L_law_B1553 xs Lz k18 w262 l3) else (some (0, w262))))) else (if v2 = 31 then (q_cl (f_X10_redo w ) (fun r264 w265 => q_cl (f_X11_redo w265 ) (fun r266 w267 => if r264 = r266 then (f_L_law_B1553 xs Lz k18 w267 l3) else (some (0, w267))))) else (if v2 = 32 then (q_ld xs Lz (l3 + 1) (fun v269 => q_cl (f_X10_body w v269) (fun r270 w271 => q_ld xs Lz (l3 + 1) (fun v272 => q_cl (f_X11_body w271 v272) (fun r273 w274 => if r270 = r273 then (f_L_law_B1553 xs Lz k18 w274 l3) else (some (0, w274))))))) else (if v2 = 33 then (q_ld xs Lz (l3 + 1) (fun v276 => q_ld xs Lz (l3 + 2) (fun v277 => q_ld xs Lz (l3 + 3) (fun v278 => q_cl (f_X10_act w v276 v277 v278) (fun r279 w280 => q_ld xs Lz (l3 + 1) (fun v281 => q_ld xs Lz (l3 + 2) (fun v282 => q_ld xs Lz (l3 + 3) (fun v283 => q_cl (f_X11_act w280 v281 v282 v283) (fun r284 w285 => if r279 = r284 then (f_L_law_B1553 xs Lz k18 w285 l3) else (some (0, w285))))))))))) else (if v2 = 34 then (q_ld xs Lz (l3 + 1) (fun v287 => q_cl (f_X10_trace w v287) (fun r288 w289 => q_ld xs Lz (l3 + 1) (fun v290 => q_cl (f_X11_trace w289 v290) (fun r291 w292 => if r288 = r291 then (f_L_law_B1553 xs Lz k18 w292 l3) else (some (0, w292))))))) else (if v2 = 35 then (q_ld xs Lz (l3 + 1) (fun v294 => q_ld xs Lz (l3 + 2) (fun v295 => q_cl (f_X10_keep w v294 v295) (fun r296 w297 => q_ld xs Lz (l3 + 1) (fun v298 => q_ld xs Lz (l3 + 2) (fun v299 => q_cl (f_X11_keep w297 v298 v299) (fun r300 w301 => if r296 = r300 then (f_L_law_B1553 xs Lz k18 w301 l3) else (some (0, w301))))))))) else (if v2 = 36 then (q_ld xs Lz (l3 + 1) (fun v303 => q_ld xs Lz (l3 + 2) (fun v304 => q_ld xs Lz (l3 + 3) (fun v305 => q_cl (f_X10_row w v303 v304 v305) (fun r306 w307 => q_ld xs Lz (l3 + 1) (fun v308 => q_ld xs Lz (l3 + 2) (fun v309 => q_ld xs Lz (l3 + 3) (fun v310 => q_cl (f_X11_row w307 v308 v309 v310) (fun r311 w312 => if r306 = r311 then (f_L_law_B1553 xs Lz k18 w312 l3) else (some (0, w312))))))))))) else (if v2 = 37 then (q_ld xs Lz (l3 + 1) (fun v314 => q_ld xs Lz (l3 + 2) (fun v315 => q_ld xs Lz (l3 + 3) (fun v316 => q_ld xs Lz (l3 + 4) (fun v317 => q_cl (f_X10_put w v314 v315 (((Int32.toInt64 v316) <<< (Int32.toInt64 32 &&& 63)) ||| ((Int32.toInt64 v317) &&& 4294967295))) (fun r318 w319 => q_ld xs Lz (l3 + 1) (fun v320 => q_ld xs Lz (l3 + 2) (fun v321 => q_ld xs Lz (l3 + 3) (fun v322 => q_ld xs Lz (l3 + 4) (fun v323 => q_cl (f_X11_put w319 v320 v321 (((Int32.toInt64 v322) <<< (Int32.toInt64 32 &&& 63)) ||| ((Int32.toInt64 v323) &&& 4294967295))) (fun r324 w325 => if r318 = r324 then (f_L_law_B1553 xs Lz k18 w325 l3) else (some (0, w325))))))))))))) else (if v2 = 38 then (q_ld xs Lz (l3 + 1) (fun v327 => q_ld xs Lz (l3 + 2) (fun v328 => q_cl (f_X10_element w v327 v328) (fun r329 w330 => q_ld xs Lz (l3 + 1) (fun v331 => q_ld xs Lz (l3 + 2) (fun v332 => q_cl (f_X11_element w330 v331 v332) (fun r333 w334 => if (lg_cmp r329 r333) = 0 then (f_L_law_B1553 xs Lz k18 w334 l3) else (some (0, w334))))))))) else (if v2 = 39 then (q_ld xs Lz (l3 + 1) (fun v336 => q_ld xs Lz (l3 + 2) (fun v337 => q_ld xs Lz (l3 + 3) (fun v338 => q_ld xs Lz (l3 + 4) (fun v339 => q_ld xs Lz (l3 + 5) (fun v340 => q_cl (f_X10_shift w v336 v337 v338 v339 v340) (fun r341 w342 => q_ld xs Lz (l3 + 1) (fun v343 => q_ld xs Lz (l3 + 2) (fun v344 => q_ld xs Lz (l3 + 3) (fun v345 => q_ld xs Lz (l3 + 4) (fun v346 => q_ld xs Lz (l3 + 5) (fun v347 => q_cl (f_X11_shift w342 v343 v344 v345 v346 v347) (fun r348 w349 => if r341 = r348 then (f_L_law_B1553 xs Lz k18 w349 l3) else (some (0, w349))))))))))))))) else (if v2 = 40 then (q_ld xs Lz (l3 + 1) (fun v351 => q_ld xs Lz (l3 + 2) (fun v352 => q_cl (f_X10_taken w v351 v352) (fun r353 w354 => q_ld xs Lz (l3 + 1) (fun v355 => q_ld xs Lz (l3 + 2) (fun v356 => q_cl (f_X11_taken w354 v355 v356) (fun r357 w358 => if r353 = r357 then (f_L_law_B1553 xs Lz k18 w358 l3) else (some (0, w358))))))))) else (if v2 = 41 then (q_ld xs Lz (l3 + 1) (fun v360 => q_cl (f_X10_count w v360) (fun r361 w362 => q_ld xs Lz (l3 + 1) (fun v363 => q_cl (f_X11_count w362 v363) (fun r364 w365 => if r361 = r364 then (f_L_law_B1553 xs Lz k18 w365 l3) else (some (0, w365))))))) else (f_L_law_B1553 xs Lz k18 w l3)))))))))))))))))))))))))))))))))))))))))))))
def f_L_law_R18 (xs : Nat → Int32) (Lz : Nat) : Nat → qW → Int32 → Option (Int32 × qW)
  | 0, _, _ => none
  | n + 1, w, l3 => f_L_law_B18 xs Lz (f_L_law_R18 xs Lz n) w l3
set_option maxRecDepth 100000 in
set_option maxHeartbeats 4000000 in
theorem t_L_law_B1553 {E : qE} {Γ : qC} (G : q_Ok E Γ RL cL_law 4 (408)) (k18 : qW → Int32 → Option (Int32 × qW)) (hk18 : ∀ (w : qW) (l3 : Int32), q_Ev E Γ 4 (q_Fi E Γ cL_law) 18 [some (.ref 106), some (.ref 0), some (.ref 48), some (.int l3)] [] w (k18 w l3)) (w : qW) (l3 : Int32) : q_Ev E Γ 4 (q_Fi E Γ cL_law) 1553 [some (.ref 106), some (.ref 0), some (.ref 48), some (.int l3)] [] w (f_L_law_B1553 (q_xs E) (q_Lz E) k18 w l3) := by
  unfold f_L_law_B1553
  refine e_iinc G (pc := 1553) (x := l3) (v := l3 + 6) (L' := fun v1 => [some (.ref 106), some (.ref 0), some (.ref 48), some (.int v1)]) dL_law_1553 (Nat.le_of_ble_eq_true rfl) rfl (by rfl) (fun _ => rfl) (fun v1 => ?_)
  refine e_goto G (pc := 1556) (tgt := 18) dL_law_1556 (by decide) ?_
  exact hk18 w v1 
set_option maxRecDepth 100000 in
set_option maxHeartbeats 4000000 in
theorem t_L_law_B18 {E : qE} {Γ : qC} (G : q_Ok E Γ RL cL_law 4 (408)) (k18 : qW → Int32 → Option (Int32 × qW)) (hk18 : ∀ (w : qW) (l3 : Int32), q_Ev E Γ 4 (q_Fi E Γ cL_law) 18 [some (.ref 106), some (.ref 0), some (.ref 48), some (.int l3)] [] w (k18 w l3)) (w : qW) (l3 : Int32) : q_Ev E Γ 4 (q_Fi E Γ cL_law) 18 [some (.ref 106), some (.ref 0), some (.ref 48), some (.int l3)] [] w (f_L_law_B18 (q_xs E) (q_Lz E) k18 w l3) := by
  unfold f_L_law_B18
  refine e_iload_n G (pc := 18) dL_law_18 rfl rfl ?_
  refine e_aload_n G (pc := 19) dL_law_19 rfl rfl ?_
  refine e_slen G (pc := 20) dL_law_20 ?_
  refine e_bipush G (pc := 21) (v := 6) dL_law_21 (by decide) ?_
  refine e_isub G (pc := 23) dL_law_23 ?_
  refine e_icmp_gt G (pc := 24) (tgt := 1559) dL_law_24 (by decide) ?_ ?_
  · refine e_iconst G (pc := 1559) (v := 1) dL_law_1559 (by decide) ?_
    exact e_iret dL_law_1560
  · refine e_aload_n G (pc := 27) dL_law_27 rfl rfl ?_
    refine e_iload_n G (pc := 28) dL_law_28 rfl rfl ?_
    refine e_sald G (pc := 29) dL_law_29 (fun v1 => ?_)
    refine e_bipush G (pc := 30) (v := 63) dL_law_30 (by decide) ?_
    refine e_iand G (pc := 32) dL_law_32 ?_
    refine e_ti (fun v2 => ?_)
    refine e_ite (fun h11 => ?_) (fun h11 => ?_)
    · refine e_tsIn G (pc := 33) (off := 183) (tgt := 216) dL_law_33 (by rw [h11]; decide) (by rw [h11]; decide) (by rw [h11]; rfl) (by decide) ?_
      refine e_aload_n G (pc := 216) dL_law_216 rfl rfl ?_
      refine e_aload_n G (pc := 217) dL_law_217 rfl rfl ?_
      refine e_iload_n G (pc := 218) dL_law_218 rfl rfl ?_
      refine e_iconst G (pc := 219) (v := 1) dL_law_219 (by decide) ?_
      refine e_iadd G (pc := 220) dL_law_220 ?_
      refine e_sald G (pc := 221) dL_law_221 (fun v3 => ?_)
      refine e_aload_n G (pc := 222) dL_law_222 rfl rfl ?_
      refine e_iload_n G (pc := 223) dL_law_223 rfl rfl ?_
      refine e_iconst G (pc := 224) (v := 2) dL_law_224 (by decide) ?_
      refine e_iadd G (pc := 225) dL_law_225 ?_
      refine e_sald G (pc := 226) dL_law_226 (fun v4 => ?_)
      refine e_cVi G (pc := 227) (As := [.int v3, .int v4]) (st := []) cv_L_13 (c_X10_man w v3 v4 ) sh_0 (Nat.le_of_ble_eq_true rfl) rfl (Nat.le_of_ble_eq_true rfl) dL_law_227 (fun r5 w6 => ?_)
      refine e_aload_n G (pc := 230) dL_law_230 rfl rfl ?_
      refine e_aload_n G (pc := 231) dL_law_231 rfl rfl ?_
      refine e_iload_n G (pc := 232) dL_law_232 rfl rfl ?_
      refine e_iconst G (pc := 233) (v := 1) dL_law_233 (by decide) ?_
      refine e_iadd G (pc := 234) dL_law_234 ?_
      refine e_sald G (pc := 235) dL_law_235 (fun v7 => ?_)
      refine e_aload_n G (pc := 236) dL_law_236 rfl rfl ?_
      refine e_iload_n G (pc := 237) dL_law_237 rfl rfl ?_
      refine e_iconst G (pc := 238) (v := 2) dL_law_238 (by decide) ?_
      refine e_iadd G (pc := 239) dL_law_239 ?_
      refine e_sald G (pc := 240) dL_law_240 (fun v8 => ?_)
      refine e_cVi G (pc := 241) (As := [.int v7, .int v8]) (st := [.int r5]) cv_L_17 (c_X11_man w6 v7 v8 ) sh_48 (Nat.le_of_ble_eq_true rfl) rfl (Nat.le_of_ble_eq_true rfl) dL_law_241 (fun r9 w10 => ?_)
      refine e_icmp_eq G (pc := 244) (tgt := 1553) dL_law_244 (by decide) ?_ ?_
      · exact t_L_law_B1553 G k18 hk18 w10 l3 
      · refine e_iconst G (pc := 247) (v := 0) dL_law_247 (by decide) ?_
        exact e_iret dL_law_248
    refine e_ite (fun h20 => ?_) (fun h20 => ?_)
    · refine e_tsIn G (pc := 33) (off := 216) (tgt := 249) dL_law_33 (by rw [h20]; decide) (by rw [h20]; decide) (by rw [h20]; rfl) (by decide) ?_
      refine e_aload_n G (pc := 249) dL_law_249 rfl rfl ?_
      refine e_aload_n G (pc := 250) dL_law_250 rfl rfl ?_
      refine e_iload_n G (pc := 251) dL_law_251 rfl rfl ?_
      refine e_iconst G (pc := 252) (v := 1) dL_law_252 (by decide) ?_
      refine e_iadd G (pc := 253) dL_law_253 ?_
      refine e_sald G (pc := 254) dL_law_254 (fun v12 => ?_)
      refine e_aload_n G (pc := 255) dL_law_255 rfl rfl ?_
      refine e_iload_n G (pc := 256) dL_law_256 rfl rfl ?_
      refine e_iconst G (pc := 257) (v := 2) dL_law_257 (by decide) ?_
      refine e_iadd G (pc := 258) dL_law_258 ?_
      refine e_sald G (pc := 259) dL_law_259 (fun v13 => ?_)
      refine e_cVi G (pc := 260) (As := [.int v12, .int v13]) (st := []) cv_L_18 (c_X10_sitter w v12 v13 ) sh_0 (Nat.le_of_ble_eq_true rfl) rfl (Nat.le_of_ble_eq_true rfl) dL_law_260 (fun r14 w15 => ?_)
      refine e_aload_n G (pc := 263) dL_law_263 rfl rfl ?_
      refine e_aload_n G (pc := 264) dL_law_264 rfl rfl ?_
      refine e_iload_n G (pc := 265) dL_law_265 rfl rfl ?_
      refine e_iconst G (pc := 266) (v := 1) dL_law_266 (by decide) ?_
      refine e_iadd G (pc := 267) dL_law_267 ?_
      refine e_sald G (pc := 268) dL_law_268 (fun v16 => ?_)
      refine e_aload_n G (pc := 269) dL_law_269 rfl rfl ?_
      refine e_iload_n G (pc := 270) dL_law_270 rfl rfl ?_
      refine e_iconst G (pc := 271) (v := 2) dL_law_271 (by decide) ?_
      refine e_iadd G (pc := 272) dL_law_272 ?_
      refine e_sald G (pc := 273) dL_law_273 (fun v17 => ?_)
      refine e_cVi G (pc := 274) (As := [.int v16, .int v17]) (st := [.int r14]) cv_L_21 (c_X11_sitter w15 v16 v17 ) sh_48 (Nat.le_of_ble_eq_true rfl) rfl (Nat.le_of_ble_eq_true rfl) dL_law_274 (fun r18 w19 => ?_)
      refine e_icmp_eq G (pc := 277) (tgt := 1553) dL_law_277 (by decide) ?_ ?_
      · exact t_L_law_B1553 G k18 hk18 w19 l3 
      · refine e_iconst G (pc := 280) (v := 0) dL_law_280 (by decide) ?_
        exact e_iret dL_law_281
    refine e_ite (fun h31 => ?_) (fun h31 => ?_)
    · refine e_tsIn G (pc := 33) (off := 249) (tgt := 282) dL_law_33 (by rw [h31]; decide) (by rw [h31]; decide) (by rw [h31]; rfl) (by decide) ?_
      refine e_aload_n G (pc := 282) dL_law_282 rfl rfl ?_
      refine e_aload_n G (pc := 283) dL_law_283 rfl rfl ?_
      refine e_iload_n G (pc := 284) dL_law_284 rfl rfl ?_
      refine e_iconst G (pc := 285) (v := 1) dL_law_285 (by decide) ?_
      refine e_iadd G (pc := 286) dL_law_286 ?_
      refine e_sald G (pc := 287) dL_law_287 (fun v21 => ?_)
      refine e_aload_n G (pc := 288) dL_law_288 rfl rfl ?_
      refine e_iload_n G (pc := 289) dL_law_289 rfl rfl ?_
      refine e_iconst G (pc := 290) (v := 2) dL_law_290 (by decide) ?_
      refine e_iadd G (pc := 291) dL_law_291 ?_
      refine e_sald G (pc := 292) dL_law_292 (fun v22 => ?_)
      refine e_aload_n G (pc := 293) dL_law_293 rfl rfl ?_
      refine e_iload_n G (pc := 294) dL_law_294 rfl rfl ?_
      refine e_iconst G (pc := 295) (v := 3) dL_law_295 (by decide) ?_
      refine e_iadd G (pc := 296) dL_law_296 ?_
      refine e_sald G (pc := 297) dL_law_297 (fun v23 => ?_)
      refine e_cVi G (pc := 298) (As := [.int v21, .int v22, .int v23]) (st := []) cv_L_22 (c_X10_sitters w v21 v22 v23 ) sh_0 (Nat.le_of_ble_eq_true rfl) rfl (Nat.le_of_ble_eq_true rfl) dL_law_298 (fun r24 w25 => ?_)
      refine e_aload_n G (pc := 301) dL_law_301 rfl rfl ?_
      refine e_aload_n G (pc := 302) dL_law_302 rfl rfl ?_
      refine e_iload_n G (pc := 303) dL_law_303 rfl rfl ?_
      refine e_iconst G (pc := 304) (v := 1) dL_law_304 (by decide) ?_
      refine e_iadd G (pc := 305) dL_law_305 ?_
      refine e_sald G (pc := 306) dL_law_306 (fun v26 => ?_)
      refine e_aload_n G (pc := 307) dL_law_307 rfl rfl ?_
      refine e_iload_n G (pc := 308) dL_law_308 rfl rfl ?_
      refine e_iconst G (pc := 309) (v := 2) dL_law_309 (by decide) ?_
      refine e_iadd G (pc := 310) dL_law_310 ?_
      refine e_sald G (pc := 311) dL_law_311 (fun v27 => ?_)
      refine e_aload_n G (pc := 312) dL_law_312 rfl rfl ?_
      refine e_iload_n G (pc := 313) dL_law_313 rfl rfl ?_
      refine e_iconst G (pc := 314) (v := 3) dL_law_314 (by decide) ?_
      refine e_iadd G (pc := 315) dL_law_315 ?_
      refine e_sald G (pc := 316) dL_law_316 (fun v28 => ?_)
      refine e_cVi G (pc := 317) (As := [.int v26, .int v27, .int v28]) (st := [.int r24]) cv_L_26 (c_X11_sitters w25 v26 v27 v28 ) sh_48 (Nat.le_of_ble_eq_true rfl) rfl (Nat.le_of_ble_eq_true rfl) dL_law_317 (fun r29 w30 => ?_)
      refine e_icmp_eq G (pc := 320) (tgt := 1553) dL_law_320 (by decide) ?_ ?_
      · exact t_L_law_B1553 G k18 hk18 w30 l3 
      · refine e_iconst G (pc := 323) (v := 0) dL_law_323 (by decide) ?_
        exact e_iret dL_law_324
    refine e_ite (fun h42 => ?_) (fun h42 => ?_)
    · refine e_tsIn G (pc := 33) (off := 292) (tgt := 325) dL_law_33 (by rw [h42]; decide) (by rw [h42]; decide) (by rw [h42]; rfl) (by decide) ?_
      refine e_aload_n G (pc := 325) dL_law_325 rfl rfl ?_
      refine e_aload_n G (pc := 326) dL_law_326 rfl rfl ?_
      refine e_iload_n G (pc := 327) dL_law_327 rfl rfl ?_
      refine e_iconst G (pc := 328) (v := 1) dL_law_328 (by decide) ?_
      refine e_iadd G (pc := 329) dL_law_329 ?_
      refine e_sald G (pc := 330) dL_law_330 (fun v32 => ?_)
      refine e_aload_n G (pc := 331) dL_law_331 rfl rfl ?_
      refine e_iload_n G (pc := 332) dL_law_332 rfl rfl ?_
      refine e_iconst G (pc := 333) (v := 2) dL_law_333 (by decide) ?_
      refine e_iadd G (pc := 334) dL_law_334 ?_
      refine e_sald G (pc := 335) dL_law_335 (fun v33 => ?_)
      refine e_aload_n G (pc := 336) dL_law_336 rfl rfl ?_
      refine e_iload_n G (pc := 337) dL_law_337 rfl rfl ?_
      refine e_iconst G (pc := 338) (v := 3) dL_law_338 (by decide) ?_
      refine e_iadd G (pc := 339) dL_law_339 ?_
      refine e_sald G (pc := 340) dL_law_340 (fun v34 => ?_)
      refine e_cVi G (pc := 341) (As := [.int v32, .int v33, .int v34]) (st := []) cv_L_27 (c_X10_mend w v32 v33 v34 ) sh_0 (Nat.le_of_ble_eq_true rfl) rfl (Nat.le_of_ble_eq_true rfl) dL_law_341 (fun r35 w36 => ?_)
      refine e_aload_n G (pc := 344) dL_law_344 rfl rfl ?_
      refine e_aload_n G (pc := 345) dL_law_345 rfl rfl ?_
      refine e_iload_n G (pc := 346) dL_law_346 rfl rfl ?_
      refine e_iconst G (pc := 347) (v := 1) dL_law_347 (by decide) ?_
      refine e_iadd G (pc := 348) dL_law_348 ?_
      refine e_sald G (pc := 349) dL_law_349 (fun v37 => ?_)
      refine e_aload_n G (pc := 350) dL_law_350 rfl rfl ?_
      refine e_iload_n G (pc := 351) dL_law_351 rfl rfl ?_
      refine e_iconst G (pc := 352) (v := 2) dL_law_352 (by decide) ?_
      refine e_iadd G (pc := 353) dL_law_353 ?_
      refine e_sald G (pc := 354) dL_law_354 (fun v38 => ?_)
      refine e_aload_n G (pc := 355) dL_law_355 rfl rfl ?_
      refine e_iload_n G (pc := 356) dL_law_356 rfl rfl ?_
      refine e_iconst G (pc := 357) (v := 3) dL_law_357 (by decide) ?_
      refine e_iadd G (pc := 358) dL_law_358 ?_
      refine e_sald G (pc := 359) dL_law_359 (fun v39 => ?_)
      refine e_cVi G (pc := 360) (As := [.int v37, .int v38, .int v39]) (st := [.int r35]) cv_L_30 (c_X11_mend w36 v37 v38 v39 ) sh_48 (Nat.le_of_ble_eq_true rfl) rfl (Nat.le_of_ble_eq_true rfl) dL_law_360 (fun r40 w41 => ?_)
      refine e_icmp_eq G (pc := 363) (tgt := 1553) dL_law_363 (by decide) ?_ ?_
      · exact t_L_law_B1553 G k18 hk18 w41 l3 
      · refine e_iconst G (pc := 366) (v := 0) dL_law_366 (by decide) ?_
        exact e_iret dL_law_367
    refine e_ite (fun h51 => ?_) (fun h51 => ?_)
    · refine e_tsIn G (pc := 33) (off := 335) (tgt := 368) dL_law_33 (by rw [h51]; decide) (by rw [h51]; decide) (by rw [h51]; rfl) (by decide) ?_
      refine e_aload_n G (pc := 368) dL_law_368 rfl rfl ?_
      refine e_aload_n G (pc := 369) dL_law_369 rfl rfl ?_
      refine e_iload_n G (pc := 370) dL_law_370 rfl rfl ?_
      refine e_iconst G (pc := 371) (v := 1) dL_law_371 (by decide) ?_
      refine e_iadd G (pc := 372) dL_law_372 ?_
      refine e_sald G (pc := 373) dL_law_373 (fun v43 => ?_)
      refine e_aload_n G (pc := 374) dL_law_374 rfl rfl ?_
      refine e_iload_n G (pc := 375) dL_law_375 rfl rfl ?_
      refine e_iconst G (pc := 376) (v := 2) dL_law_376 (by decide) ?_
      refine e_iadd G (pc := 377) dL_law_377 ?_
      refine e_sald G (pc := 378) dL_law_378 (fun v44 => ?_)
      refine e_cVi G (pc := 379) (As := [.int v43, .int v44]) (st := []) cv_L_31 (c_X10_of w v43 v44 ) sh_0 (Nat.le_of_ble_eq_true rfl) rfl (Nat.le_of_ble_eq_true rfl) dL_law_379 (fun r45 w46 => ?_)
      refine e_aload_n G (pc := 382) dL_law_382 rfl rfl ?_
      refine e_aload_n G (pc := 383) dL_law_383 rfl rfl ?_
      refine e_iload_n G (pc := 384) dL_law_384 rfl rfl ?_
      refine e_iconst G (pc := 385) (v := 1) dL_law_385 (by decide) ?_
      refine e_iadd G (pc := 386) dL_law_386 ?_
      refine e_sald G (pc := 387) dL_law_387 (fun v47 => ?_)
      refine e_aload_n G (pc := 388) dL_law_388 rfl rfl ?_
      refine e_iload_n G (pc := 389) dL_law_389 rfl rfl ?_
      refine e_iconst G (pc := 390) (v := 2) dL_law_390 (by decide) ?_
      refine e_iadd G (pc := 391) dL_law_391 ?_
      refine e_sald G (pc := 392) dL_law_392 (fun v48 => ?_)
      refine e_cVi G (pc := 393) (As := [.int v47, .int v48]) (st := [.int r45]) cv_L_34 (c_X11_of w46 v47 v48 ) sh_48 (Nat.le_of_ble_eq_true rfl) rfl (Nat.le_of_ble_eq_true rfl) dL_law_393 (fun r49 w50 => ?_)
      refine e_icmp_eq G (pc := 396) (tgt := 1553) dL_law_396 (by decide) ?_ ?_
      · exact t_L_law_B1553 G k18 hk18 w50 l3 
      · refine e_iconst G (pc := 399) (v := 0) dL_law_399 (by decide) ?_
        exact e_iret dL_law_400
    refine e_ite (fun h58 => ?_) (fun h58 => ?_)
    · refine e_tsIn G (pc := 33) (off := 368) (tgt := 401) dL_law_33 (by rw [h58]; decide) (by rw [h58]; decide) (by rw [h58]; rfl) (by decide) ?_
      refine e_aload_n G (pc := 401) dL_law_401 rfl rfl ?_
      refine e_aload_n G (pc := 402) dL_law_402 rfl rfl ?_
      refine e_iload_n G (pc := 403) dL_law_403 rfl rfl ?_
      refine e_iconst G (pc := 404) (v := 1) dL_law_404 (by decide) ?_
      refine e_iadd G (pc := 405) dL_law_405 ?_
      refine e_sald G (pc := 406) dL_law_406 (fun v52 => ?_)
      refine e_cVi G (pc := 407) (As := [.int v52]) (st := []) cv_L_35 (c_X10_feed w v52 ) sh_0 (Nat.le_of_ble_eq_true rfl) rfl (Nat.le_of_ble_eq_true rfl) dL_law_407 (fun r53 w54 => ?_)
      refine e_aload_n G (pc := 410) dL_law_410 rfl rfl ?_
      refine e_aload_n G (pc := 411) dL_law_411 rfl rfl ?_
      refine e_iload_n G (pc := 412) dL_law_412 rfl rfl ?_
      refine e_iconst G (pc := 413) (v := 1) dL_law_413 (by decide) ?_
      refine e_iadd G (pc := 414) dL_law_414 ?_
      refine e_sald G (pc := 415) dL_law_415 (fun v55 => ?_)
      refine e_cVi G (pc := 416) (As := [.int v55]) (st := [.int r53]) cv_L_39 (c_X11_feed w54 v55 ) sh_48 (Nat.le_of_ble_eq_true rfl) rfl (Nat.le_of_ble_eq_true rfl) dL_law_416 (fun r56 w57 => ?_)
      refine e_icmp_eq G (pc := 419) (tgt := 1553) dL_law_419 (by decide) ?_ ?_
      · exact t_L_law_B1553 G k18 hk18 w57 l3 
      · refine e_iconst G (pc := 422) (v := 0) dL_law_422 (by decide) ?_
        exact e_iret dL_law_423
    refine e_ite (fun h63 => ?_) (fun h63 => ?_)
    · refine e_tsIn G (pc := 33) (off := 391) (tgt := 424) dL_law_33 (by rw [h63]; decide) (by rw [h63]; decide) (by rw [h63]; rfl) (by decide) ?_
      refine e_aload_n G (pc := 424) dL_law_424 rfl rfl ?_
      refine e_cVi G (pc := 425) (As := []) (st := []) cv_L_40 (c_X10_law w  ) sh_0 (Nat.le_of_ble_eq_true rfl) rfl (Nat.le_of_ble_eq_true rfl) dL_law_425 (fun r59 w60 => ?_)
      refine e_aload_n G (pc := 428) dL_law_428 rfl rfl ?_
      refine e_cVi G (pc := 429) (As := []) (st := [.int r59]) cv_L_44 (c_X11_law w60  ) sh_48 (Nat.le_of_ble_eq_true rfl) rfl (Nat.le_of_ble_eq_true rfl) dL_law_429 (fun r61 w62 => ?_)
      refine e_icmp_eq G (pc := 432) (tgt := 1553) dL_law_432 (by decide) ?_ ?_
      · exact t_L_law_B1553 G k18 hk18 w62 l3 
      · refine e_iconst G (pc := 435) (v := 0) dL_law_435 (by decide) ?_
        exact e_iret dL_law_436
    refine e_ite (fun h72 => ?_) (fun h72 => ?_)
    · refine e_tsIn G (pc := 33) (off := 404) (tgt := 437) dL_law_33 (by rw [h72]; decide) (by rw [h72]; decide) (by rw [h72]; rfl) (by decide) ?_
      refine e_aload_n G (pc := 437) dL_law_437 rfl rfl ?_
      refine e_aload_n G (pc := 438) dL_law_438 rfl rfl ?_
      refine e_iload_n G (pc := 439) dL_law_439 rfl rfl ?_
      refine e_iconst G (pc := 440) (v := 1) dL_law_440 (by decide) ?_
      refine e_iadd G (pc := 441) dL_law_441 ?_
      refine e_sald G (pc := 442) dL_law_442 (fun v64 => ?_)
      refine e_aload_n G (pc := 443) dL_law_443 rfl rfl ?_
      refine e_iload_n G (pc := 444) dL_law_444 rfl rfl ?_
      refine e_iconst G (pc := 445) (v := 2) dL_law_445 (by decide) ?_
      refine e_iadd G (pc := 446) dL_law_446 ?_
      refine e_sald G (pc := 447) dL_law_447 (fun v65 => ?_)
      refine e_cVi G (pc := 448) (As := [.int v64, .int v65]) (st := []) cv_L_45 (c_X10_shade w v64 v65 ) sh_0 (Nat.le_of_ble_eq_true rfl) rfl (Nat.le_of_ble_eq_true rfl) dL_law_448 (fun r66 w67 => ?_)
      refine e_aload_n G (pc := 451) dL_law_451 rfl rfl ?_
      refine e_aload_n G (pc := 452) dL_law_452 rfl rfl ?_
      refine e_iload_n G (pc := 453) dL_law_453 rfl rfl ?_
      refine e_iconst G (pc := 454) (v := 1) dL_law_454 (by decide) ?_
      refine e_iadd G (pc := 455) dL_law_455 ?_
      refine e_sald G (pc := 456) dL_law_456 (fun v68 => ?_)
      refine e_aload_n G (pc := 457) dL_law_457 rfl rfl ?_
      refine e_iload_n G (pc := 458) dL_law_458 rfl rfl ?_
      refine e_iconst G (pc := 459) (v := 2) dL_law_459 (by decide) ?_
      refine e_iadd G (pc := 460) dL_law_460 ?_
      refine e_sald G (pc := 461) dL_law_461 (fun v69 => ?_)
      refine e_cVi G (pc := 462) (As := [.int v68, .int v69]) (st := [.int r66]) cv_L_48 (c_X11_shade w67 v68 v69 ) sh_48 (Nat.le_of_ble_eq_true rfl) rfl (Nat.le_of_ble_eq_true rfl) dL_law_462 (fun r70 w71 => ?_)
      refine e_icmp_eq G (pc := 465) (tgt := 1553) dL_law_465 (by decide) ?_ ?_
      · exact t_L_law_B1553 G k18 hk18 w71 l3 
      · refine e_iconst G (pc := 468) (v := 0) dL_law_468 (by decide) ?_
        exact e_iret dL_law_469
    refine e_ite (fun h81 => ?_) (fun h81 => ?_)
    · refine e_tsIn G (pc := 33) (off := 437) (tgt := 470) dL_law_33 (by rw [h81]; decide) (by rw [h81]; decide) (by rw [h81]; rfl) (by decide) ?_
      refine e_aload_n G (pc := 470) dL_law_470 rfl rfl ?_
      refine e_aload_n G (pc := 471) dL_law_471 rfl rfl ?_
      refine e_iload_n G (pc := 472) dL_law_472 rfl rfl ?_
      refine e_iconst G (pc := 473) (v := 1) dL_law_473 (by decide) ?_
      refine e_iadd G (pc := 474) dL_law_474 ?_
      refine e_sald G (pc := 475) dL_law_475 (fun v73 => ?_)
      refine e_aload_n G (pc := 476) dL_law_476 rfl rfl ?_
      refine e_iload_n G (pc := 477) dL_law_477 rfl rfl ?_
      refine e_iconst G (pc := 478) (v := 2) dL_law_478 (by decide) ?_
      refine e_iadd G (pc := 479) dL_law_479 ?_
      refine e_sald G (pc := 480) dL_law_480 (fun v74 => ?_)
      refine e_cVi G (pc := 481) (As := [.int v73, .int v74]) (st := []) cv_L_49 (c_X10_walk w v73 v74 ) sh_0 (Nat.le_of_ble_eq_true rfl) rfl (Nat.le_of_ble_eq_true rfl) dL_law_481 (fun r75 w76 => ?_)
      refine e_aload_n G (pc := 484) dL_law_484 rfl rfl ?_
      refine e_aload_n G (pc := 485) dL_law_485 rfl rfl ?_
      refine e_iload_n G (pc := 486) dL_law_486 rfl rfl ?_
      refine e_iconst G (pc := 487) (v := 1) dL_law_487 (by decide) ?_
      refine e_iadd G (pc := 488) dL_law_488 ?_
      refine e_sald G (pc := 489) dL_law_489 (fun v77 => ?_)
      refine e_aload_n G (pc := 490) dL_law_490 rfl rfl ?_
      refine e_iload_n G (pc := 491) dL_law_491 rfl rfl ?_
      refine e_iconst G (pc := 492) (v := 2) dL_law_492 (by decide) ?_
      refine e_iadd G (pc := 493) dL_law_493 ?_
      refine e_sald G (pc := 494) dL_law_494 (fun v78 => ?_)
      refine e_cVi G (pc := 495) (As := [.int v77, .int v78]) (st := [.int r75]) cv_L_52 (c_X11_walk w76 v77 v78 ) sh_48 (Nat.le_of_ble_eq_true rfl) rfl (Nat.le_of_ble_eq_true rfl) dL_law_495 (fun r79 w80 => ?_)
      refine e_icmp_eq G (pc := 498) (tgt := 1553) dL_law_498 (by decide) ?_ ?_
      · exact t_L_law_B1553 G k18 hk18 w80 l3 
      · refine e_iconst G (pc := 501) (v := 0) dL_law_501 (by decide) ?_
        exact e_iret dL_law_502
    refine e_ite (fun h90 => ?_) (fun h90 => ?_)
    · refine e_tsIn G (pc := 33) (off := 470) (tgt := 503) dL_law_33 (by rw [h90]; decide) (by rw [h90]; decide) (by rw [h90]; rfl) (by decide) ?_
      refine e_aload_n G (pc := 503) dL_law_503 rfl rfl ?_
      refine e_aload_n G (pc := 504) dL_law_504 rfl rfl ?_
      refine e_iload_n G (pc := 505) dL_law_505 rfl rfl ?_
      refine e_iconst G (pc := 506) (v := 1) dL_law_506 (by decide) ?_
      refine e_iadd G (pc := 507) dL_law_507 ?_
      refine e_sald G (pc := 508) dL_law_508 (fun v82 => ?_)
      refine e_aload_n G (pc := 509) dL_law_509 rfl rfl ?_
      refine e_iload_n G (pc := 510) dL_law_510 rfl rfl ?_
      refine e_iconst G (pc := 511) (v := 2) dL_law_511 (by decide) ?_
      refine e_iadd G (pc := 512) dL_law_512 ?_
      refine e_sald G (pc := 513) dL_law_513 (fun v83 => ?_)
      refine e_cVi G (pc := 514) (As := [.int v82, .int v83]) (st := []) cv_L_53 (c_X10_served w v82 v83 ) sh_0 (Nat.le_of_ble_eq_true rfl) rfl (Nat.le_of_ble_eq_true rfl) dL_law_514 (fun r84 w85 => ?_)
      refine e_aload_n G (pc := 517) dL_law_517 rfl rfl ?_
      refine e_aload_n G (pc := 518) dL_law_518 rfl rfl ?_
      refine e_iload_n G (pc := 519) dL_law_519 rfl rfl ?_
      refine e_iconst G (pc := 520) (v := 1) dL_law_520 (by decide) ?_
      refine e_iadd G (pc := 521) dL_law_521 ?_
      refine e_sald G (pc := 522) dL_law_522 (fun v86 => ?_)
      refine e_aload_n G (pc := 523) dL_law_523 rfl rfl ?_
      refine e_iload_n G (pc := 524) dL_law_524 rfl rfl ?_
      refine e_iconst G (pc := 525) (v := 2) dL_law_525 (by decide) ?_
      refine e_iadd G (pc := 526) dL_law_526 ?_
      refine e_sald G (pc := 527) dL_law_527 (fun v87 => ?_)
      refine e_cVi G (pc := 528) (As := [.int v86, .int v87]) (st := [.int r84]) cv_L_56 (c_X11_served w85 v86 v87 ) sh_48 (Nat.le_of_ble_eq_true rfl) rfl (Nat.le_of_ble_eq_true rfl) dL_law_528 (fun r88 w89 => ?_)
      refine e_icmp_eq G (pc := 531) (tgt := 1553) dL_law_531 (by decide) ?_ ?_
      · exact t_L_law_B1553 G k18 hk18 w89 l3 
      · refine e_iconst G (pc := 534) (v := 0) dL_law_534 (by decide) ?_
        exact e_iret dL_law_535
    refine e_ite (fun h99 => ?_) (fun h99 => ?_)
    · refine e_tsIn G (pc := 33) (off := 503) (tgt := 536) dL_law_33 (by rw [h99]; decide) (by rw [h99]; decide) (by rw [h99]; rfl) (by decide) ?_
      refine e_aload_n G (pc := 536) dL_law_536 rfl rfl ?_
      refine e_aload_n G (pc := 537) dL_law_537 rfl rfl ?_
      refine e_iload_n G (pc := 538) dL_law_538 rfl rfl ?_
      refine e_iconst G (pc := 539) (v := 1) dL_law_539 (by decide) ?_
      refine e_iadd G (pc := 540) dL_law_540 ?_
      refine e_sald G (pc := 541) dL_law_541 (fun v91 => ?_)
      refine e_aload_n G (pc := 542) dL_law_542 rfl rfl ?_
      refine e_iload_n G (pc := 543) dL_law_543 rfl rfl ?_
      refine e_iconst G (pc := 544) (v := 2) dL_law_544 (by decide) ?_
      refine e_iadd G (pc := 545) dL_law_545 ?_
      refine e_sald G (pc := 546) dL_law_546 (fun v92 => ?_)
      refine e_cVi G (pc := 547) (As := [.int v91, .int v92]) (st := []) cv_L_57 (c_X10_at w v91 v92 ) sh_0 (Nat.le_of_ble_eq_true rfl) rfl (Nat.le_of_ble_eq_true rfl) dL_law_547 (fun r93 w94 => ?_)
      refine e_aload_n G (pc := 550) dL_law_550 rfl rfl ?_
      refine e_aload_n G (pc := 551) dL_law_551 rfl rfl ?_
      refine e_iload_n G (pc := 552) dL_law_552 rfl rfl ?_
      refine e_iconst G (pc := 553) (v := 1) dL_law_553 (by decide) ?_
      refine e_iadd G (pc := 554) dL_law_554 ?_
      refine e_sald G (pc := 555) dL_law_555 (fun v95 => ?_)
      refine e_aload_n G (pc := 556) dL_law_556 rfl rfl ?_
      refine e_iload_n G (pc := 557) dL_law_557 rfl rfl ?_
      refine e_iconst G (pc := 558) (v := 2) dL_law_558 (by decide) ?_
      refine e_iadd G (pc := 559) dL_law_559 ?_
      refine e_sald G (pc := 560) dL_law_560 (fun v96 => ?_)
      refine e_cVi G (pc := 561) (As := [.int v95, .int v96]) (st := [.int r93]) cv_L_60 (c_X11_at w94 v95 v96 ) sh_48 (Nat.le_of_ble_eq_true rfl) rfl (Nat.le_of_ble_eq_true rfl) dL_law_561 (fun r97 w98 => ?_)
      refine e_icmp_eq G (pc := 564) (tgt := 1553) dL_law_564 (by decide) ?_ ?_
      · exact t_L_law_B1553 G k18 hk18 w98 l3 
      · refine e_iconst G (pc := 567) (v := 0) dL_law_567 (by decide) ?_
        exact e_iret dL_law_568
    refine e_ite (fun h106 => ?_) (fun h106 => ?_)
    · refine e_tsIn G (pc := 33) (off := 536) (tgt := 569) dL_law_33 (by rw [h106]; decide) (by rw [h106]; decide) (by rw [h106]; rfl) (by decide) ?_
      refine e_aload_n G (pc := 569) dL_law_569 rfl rfl ?_
      refine e_aload_n G (pc := 570) dL_law_570 rfl rfl ?_
      refine e_iload_n G (pc := 571) dL_law_571 rfl rfl ?_
      refine e_iconst G (pc := 572) (v := 1) dL_law_572 (by decide) ?_
      refine e_iadd G (pc := 573) dL_law_573 ?_
      refine e_sald G (pc := 574) dL_law_574 (fun v100 => ?_)
      refine e_cVi G (pc := 575) (As := [.int v100]) (st := []) cv_L_61 (c_X10_enough w v100 ) sh_0 (Nat.le_of_ble_eq_true rfl) rfl (Nat.le_of_ble_eq_true rfl) dL_law_575 (fun r101 w102 => ?_)
      refine e_aload_n G (pc := 578) dL_law_578 rfl rfl ?_
      refine e_aload_n G (pc := 579) dL_law_579 rfl rfl ?_
      refine e_iload_n G (pc := 580) dL_law_580 rfl rfl ?_
      refine e_iconst G (pc := 581) (v := 1) dL_law_581 (by decide) ?_
      refine e_iadd G (pc := 582) dL_law_582 ?_
      refine e_sald G (pc := 583) dL_law_583 (fun v103 => ?_)
      refine e_cVi G (pc := 584) (As := [.int v103]) (st := [.int r101]) cv_L_64 (c_X11_enough w102 v103 ) sh_48 (Nat.le_of_ble_eq_true rfl) rfl (Nat.le_of_ble_eq_true rfl) dL_law_584 (fun r104 w105 => ?_)
      refine e_icmp_eq G (pc := 587) (tgt := 1553) dL_law_587 (by decide) ?_ ?_
      · exact t_L_law_B1553 G k18 hk18 w105 l3 
      · refine e_iconst G (pc := 590) (v := 0) dL_law_590 (by decide) ?_
        exact e_iret dL_law_591
    refine e_ite (fun h113 => ?_) (fun h113 => ?_)
    · refine e_tsIn G (pc := 33) (off := 559) (tgt := 592) dL_law_33 (by rw [h113]; decide) (by rw [h113]; decide) (by rw [h113]; rfl) (by decide) ?_
      refine e_aload_n G (pc := 592) dL_law_592 rfl rfl ?_
      refine e_aload_n G (pc := 593) dL_law_593 rfl rfl ?_
      refine e_iload_n G (pc := 594) dL_law_594 rfl rfl ?_
      refine e_iconst G (pc := 595) (v := 1) dL_law_595 (by decide) ?_
      refine e_iadd G (pc := 596) dL_law_596 ?_
      refine e_sald G (pc := 597) dL_law_597 (fun v107 => ?_)
      refine e_cVi G (pc := 598) (As := [.int v107]) (st := []) cv_L_65 (c_X10_roster w v107 ) sh_0 (Nat.le_of_ble_eq_true rfl) rfl (Nat.le_of_ble_eq_true rfl) dL_law_598 (fun r108 w109 => ?_)
      refine e_aload_n G (pc := 601) dL_law_601 rfl rfl ?_
      refine e_aload_n G (pc := 602) dL_law_602 rfl rfl ?_
      refine e_iload_n G (pc := 603) dL_law_603 rfl rfl ?_
      refine e_iconst G (pc := 604) (v := 1) dL_law_604 (by decide) ?_
      refine e_iadd G (pc := 605) dL_law_605 ?_
      refine e_sald G (pc := 606) dL_law_606 (fun v110 => ?_)
      refine e_cVi G (pc := 607) (As := [.int v110]) (st := [.int r108]) cv_L_68 (c_X11_roster w109 v110 ) sh_48 (Nat.le_of_ble_eq_true rfl) rfl (Nat.le_of_ble_eq_true rfl) dL_law_607 (fun r111 w112 => ?_)
      refine e_icmp_eq G (pc := 610) (tgt := 1553) dL_law_610 (by decide) ?_ ?_
      · exact t_L_law_B1553 G k18 hk18 w112 l3 
      · refine e_iconst G (pc := 613) (v := 0) dL_law_613 (by decide) ?_
        exact e_iret dL_law_614
    refine e_ite (fun h122 => ?_) (fun h122 => ?_)
    · refine e_tsIn G (pc := 33) (off := 582) (tgt := 615) dL_law_33 (by rw [h122]; decide) (by rw [h122]; decide) (by rw [h122]; rfl) (by decide) ?_
      refine e_aload_n G (pc := 615) dL_law_615 rfl rfl ?_
      refine e_aload_n G (pc := 616) dL_law_616 rfl rfl ?_
      refine e_iload_n G (pc := 617) dL_law_617 rfl rfl ?_
      refine e_iconst G (pc := 618) (v := 1) dL_law_618 (by decide) ?_
      refine e_iadd G (pc := 619) dL_law_619 ?_
      refine e_sald G (pc := 620) dL_law_620 (fun v114 => ?_)
      refine e_aload_n G (pc := 621) dL_law_621 rfl rfl ?_
      refine e_iload_n G (pc := 622) dL_law_622 rfl rfl ?_
      refine e_iconst G (pc := 623) (v := 2) dL_law_623 (by decide) ?_
      refine e_iadd G (pc := 624) dL_law_624 ?_
      refine e_sald G (pc := 625) dL_law_625 (fun v115 => ?_)
      refine e_cVi G (pc := 626) (As := [.int v114, .int v115]) (st := []) cv_L_69 (c_X10_oneMore w v114 v115 ) sh_0 (Nat.le_of_ble_eq_true rfl) rfl (Nat.le_of_ble_eq_true rfl) dL_law_626 (fun r116 w117 => ?_)
      refine e_aload_n G (pc := 629) dL_law_629 rfl rfl ?_
      refine e_aload_n G (pc := 630) dL_law_630 rfl rfl ?_
      refine e_iload_n G (pc := 631) dL_law_631 rfl rfl ?_
      refine e_iconst G (pc := 632) (v := 1) dL_law_632 (by decide) ?_
      refine e_iadd G (pc := 633) dL_law_633 ?_
      refine e_sald G (pc := 634) dL_law_634 (fun v118 => ?_)
      refine e_aload_n G (pc := 635) dL_law_635 rfl rfl ?_
      refine e_iload_n G (pc := 636) dL_law_636 rfl rfl ?_
      refine e_iconst G (pc := 637) (v := 2) dL_law_637 (by decide) ?_
      refine e_iadd G (pc := 638) dL_law_638 ?_
      refine e_sald G (pc := 639) dL_law_639 (fun v119 => ?_)
      refine e_cVi G (pc := 640) (As := [.int v118, .int v119]) (st := [.int r116]) cv_L_72 (c_X11_oneMore w117 v118 v119 ) sh_48 (Nat.le_of_ble_eq_true rfl) rfl (Nat.le_of_ble_eq_true rfl) dL_law_640 (fun r120 w121 => ?_)
      refine e_icmp_eq G (pc := 643) (tgt := 1553) dL_law_643 (by decide) ?_ ?_
      · exact t_L_law_B1553 G k18 hk18 w121 l3 
      · refine e_iconst G (pc := 646) (v := 0) dL_law_646 (by decide) ?_
        exact e_iret dL_law_647
    refine e_ite (fun h131 => ?_) (fun h131 => ?_)
    · refine e_tsIn G (pc := 33) (off := 615) (tgt := 648) dL_law_33 (by rw [h131]; decide) (by rw [h131]; decide) (by rw [h131]; rfl) (by decide) ?_
      refine e_aload_n G (pc := 648) dL_law_648 rfl rfl ?_
      refine e_aload_n G (pc := 649) dL_law_649 rfl rfl ?_
      refine e_iload_n G (pc := 650) dL_law_650 rfl rfl ?_
      refine e_iconst G (pc := 651) (v := 1) dL_law_651 (by decide) ?_
      refine e_iadd G (pc := 652) dL_law_652 ?_
      refine e_sald G (pc := 653) dL_law_653 (fun v123 => ?_)
      refine e_aload_n G (pc := 654) dL_law_654 rfl rfl ?_
      refine e_iload_n G (pc := 655) dL_law_655 rfl rfl ?_
      refine e_iconst G (pc := 656) (v := 2) dL_law_656 (by decide) ?_
      refine e_iadd G (pc := 657) dL_law_657 ?_
      refine e_sald G (pc := 658) dL_law_658 (fun v124 => ?_)
      refine e_cVi G (pc := 659) (As := [.int v123, .int v124]) (st := []) cv_L_73 (c_X10_step w v123 v124 ) sh_0 (Nat.le_of_ble_eq_true rfl) rfl (Nat.le_of_ble_eq_true rfl) dL_law_659 (fun r125 w126 => ?_)
      refine e_aload_n G (pc := 662) dL_law_662 rfl rfl ?_
      refine e_aload_n G (pc := 663) dL_law_663 rfl rfl ?_
      refine e_iload_n G (pc := 664) dL_law_664 rfl rfl ?_
      refine e_iconst G (pc := 665) (v := 1) dL_law_665 (by decide) ?_
      refine e_iadd G (pc := 666) dL_law_666 ?_
      refine e_sald G (pc := 667) dL_law_667 (fun v127 => ?_)
      refine e_aload_n G (pc := 668) dL_law_668 rfl rfl ?_
      refine e_iload_n G (pc := 669) dL_law_669 rfl rfl ?_
      refine e_iconst G (pc := 670) (v := 2) dL_law_670 (by decide) ?_
      refine e_iadd G (pc := 671) dL_law_671 ?_
      refine e_sald G (pc := 672) dL_law_672 (fun v128 => ?_)
      refine e_cVi G (pc := 673) (As := [.int v127, .int v128]) (st := [.int r125]) cv_L_76 (c_X11_step w126 v127 v128 ) sh_48 (Nat.le_of_ble_eq_true rfl) rfl (Nat.le_of_ble_eq_true rfl) dL_law_673 (fun r129 w130 => ?_)
      refine e_icmp_eq G (pc := 676) (tgt := 1553) dL_law_676 (by decide) ?_ ?_
      · exact t_L_law_B1553 G k18 hk18 w130 l3 
      · refine e_iconst G (pc := 679) (v := 0) dL_law_679 (by decide) ?_
        exact e_iret dL_law_680
    refine e_ite (fun h140 => ?_) (fun h140 => ?_)
    · refine e_tsIn G (pc := 33) (off := 648) (tgt := 681) dL_law_33 (by rw [h140]; decide) (by rw [h140]; decide) (by rw [h140]; rfl) (by decide) ?_
      refine e_aload_n G (pc := 681) dL_law_681 rfl rfl ?_
      refine e_aload_n G (pc := 682) dL_law_682 rfl rfl ?_
      refine e_iload_n G (pc := 683) dL_law_683 rfl rfl ?_
      refine e_iconst G (pc := 684) (v := 1) dL_law_684 (by decide) ?_
      refine e_iadd G (pc := 685) dL_law_685 ?_
      refine e_sald G (pc := 686) dL_law_686 (fun v132 => ?_)
      refine e_aload_n G (pc := 687) dL_law_687 rfl rfl ?_
      refine e_iload_n G (pc := 688) dL_law_688 rfl rfl ?_
      refine e_iconst G (pc := 689) (v := 2) dL_law_689 (by decide) ?_
      refine e_iadd G (pc := 690) dL_law_690 ?_
      refine e_sald G (pc := 691) dL_law_691 (fun v133 => ?_)
      refine e_cVi G (pc := 692) (As := [.int v132, .int v133]) (st := []) cv_L_77 (c_X10_judge w v132 v133 ) sh_0 (Nat.le_of_ble_eq_true rfl) rfl (Nat.le_of_ble_eq_true rfl) dL_law_692 (fun r134 w135 => ?_)
      refine e_aload_n G (pc := 695) dL_law_695 rfl rfl ?_
      refine e_aload_n G (pc := 696) dL_law_696 rfl rfl ?_
      refine e_iload_n G (pc := 697) dL_law_697 rfl rfl ?_
      refine e_iconst G (pc := 698) (v := 1) dL_law_698 (by decide) ?_
      refine e_iadd G (pc := 699) dL_law_699 ?_
      refine e_sald G (pc := 700) dL_law_700 (fun v136 => ?_)
      refine e_aload_n G (pc := 701) dL_law_701 rfl rfl ?_
      refine e_iload_n G (pc := 702) dL_law_702 rfl rfl ?_
      refine e_iconst G (pc := 703) (v := 2) dL_law_703 (by decide) ?_
      refine e_iadd G (pc := 704) dL_law_704 ?_
      refine e_sald G (pc := 705) dL_law_705 (fun v137 => ?_)
      refine e_cVi G (pc := 706) (As := [.int v136, .int v137]) (st := [.int r134]) cv_L_80 (c_X11_judge w135 v136 v137 ) sh_48 (Nat.le_of_ble_eq_true rfl) rfl (Nat.le_of_ble_eq_true rfl) dL_law_706 (fun r138 w139 => ?_)
      refine e_icmp_eq G (pc := 709) (tgt := 1553) dL_law_709 (by decide) ?_ ?_
      · exact t_L_law_B1553 G k18 hk18 w139 l3 
      · refine e_iconst G (pc := 712) (v := 0) dL_law_712 (by decide) ?_
        exact e_iret dL_law_713
    refine e_ite (fun h151 => ?_) (fun h151 => ?_)
    · refine e_tsIn G (pc := 33) (off := 681) (tgt := 714) dL_law_33 (by rw [h151]; decide) (by rw [h151]; decide) (by rw [h151]; rfl) (by decide) ?_
      refine e_aload_n G (pc := 714) dL_law_714 rfl rfl ?_
      refine e_aload_n G (pc := 715) dL_law_715 rfl rfl ?_
      refine e_iload_n G (pc := 716) dL_law_716 rfl rfl ?_
      refine e_iconst G (pc := 717) (v := 1) dL_law_717 (by decide) ?_
      refine e_iadd G (pc := 718) dL_law_718 ?_
      refine e_sald G (pc := 719) dL_law_719 (fun v141 => ?_)
      refine e_aload_n G (pc := 720) dL_law_720 rfl rfl ?_
      refine e_iload_n G (pc := 721) dL_law_721 rfl rfl ?_
      refine e_iconst G (pc := 722) (v := 2) dL_law_722 (by decide) ?_
      refine e_iadd G (pc := 723) dL_law_723 ?_
      refine e_sald G (pc := 724) dL_law_724 (fun v142 => ?_)
      refine e_aload_n G (pc := 725) dL_law_725 rfl rfl ?_
      refine e_iload_n G (pc := 726) dL_law_726 rfl rfl ?_
      refine e_iconst G (pc := 727) (v := 3) dL_law_727 (by decide) ?_
      refine e_iadd G (pc := 728) dL_law_728 ?_
      refine e_sald G (pc := 729) dL_law_729 (fun v143 => ?_)
      refine e_cVi G (pc := 730) (As := [.int v141, .int v142, .int v143]) (st := []) cv_L_81 (c_X10_stood w v141 v142 v143 ) sh_0 (Nat.le_of_ble_eq_true rfl) rfl (Nat.le_of_ble_eq_true rfl) dL_law_730 (fun r144 w145 => ?_)
      refine e_aload_n G (pc := 733) dL_law_733 rfl rfl ?_
      refine e_aload_n G (pc := 734) dL_law_734 rfl rfl ?_
      refine e_iload_n G (pc := 735) dL_law_735 rfl rfl ?_
      refine e_iconst G (pc := 736) (v := 1) dL_law_736 (by decide) ?_
      refine e_iadd G (pc := 737) dL_law_737 ?_
      refine e_sald G (pc := 738) dL_law_738 (fun v146 => ?_)
      refine e_aload_n G (pc := 739) dL_law_739 rfl rfl ?_
      refine e_iload_n G (pc := 740) dL_law_740 rfl rfl ?_
      refine e_iconst G (pc := 741) (v := 2) dL_law_741 (by decide) ?_
      refine e_iadd G (pc := 742) dL_law_742 ?_
      refine e_sald G (pc := 743) dL_law_743 (fun v147 => ?_)
      refine e_aload_n G (pc := 744) dL_law_744 rfl rfl ?_
      refine e_iload_n G (pc := 745) dL_law_745 rfl rfl ?_
      refine e_iconst G (pc := 746) (v := 3) dL_law_746 (by decide) ?_
      refine e_iadd G (pc := 747) dL_law_747 ?_
      refine e_sald G (pc := 748) dL_law_748 (fun v148 => ?_)
      refine e_cVi G (pc := 749) (As := [.int v146, .int v147, .int v148]) (st := [.int r144]) cv_L_84 (c_X11_stood w145 v146 v147 v148 ) sh_48 (Nat.le_of_ble_eq_true rfl) rfl (Nat.le_of_ble_eq_true rfl) dL_law_749 (fun r149 w150 => ?_)
      refine e_icmp_eq G (pc := 752) (tgt := 1553) dL_law_752 (by decide) ?_ ?_
      · exact t_L_law_B1553 G k18 hk18 w150 l3 
      · refine e_iconst G (pc := 755) (v := 0) dL_law_755 (by decide) ?_
        exact e_iret dL_law_756
    refine e_ite (fun h162 => ?_) (fun h162 => ?_)
    · refine e_tsIn G (pc := 33) (off := 724) (tgt := 757) dL_law_33 (by rw [h162]; decide) (by rw [h162]; decide) (by rw [h162]; rfl) (by decide) ?_
      refine e_aload_n G (pc := 757) dL_law_757 rfl rfl ?_
      refine e_aload_n G (pc := 758) dL_law_758 rfl rfl ?_
      refine e_iload_n G (pc := 759) dL_law_759 rfl rfl ?_
      refine e_iconst G (pc := 760) (v := 1) dL_law_760 (by decide) ?_
      refine e_iadd G (pc := 761) dL_law_761 ?_
      refine e_sald G (pc := 762) dL_law_762 (fun v152 => ?_)
      refine e_aload_n G (pc := 763) dL_law_763 rfl rfl ?_
      refine e_iload_n G (pc := 764) dL_law_764 rfl rfl ?_
      refine e_iconst G (pc := 765) (v := 2) dL_law_765 (by decide) ?_
      refine e_iadd G (pc := 766) dL_law_766 ?_
      refine e_sald G (pc := 767) dL_law_767 (fun v153 => ?_)
      refine e_aload_n G (pc := 768) dL_law_768 rfl rfl ?_
      refine e_iload_n G (pc := 769) dL_law_769 rfl rfl ?_
      refine e_iconst G (pc := 770) (v := 3) dL_law_770 (by decide) ?_
      refine e_iadd G (pc := 771) dL_law_771 ?_
      refine e_sald G (pc := 772) dL_law_772 (fun v154 => ?_)
      refine e_cVi G (pc := 773) (As := [.int v152, .int v153, .int v154]) (st := []) cv_L_85 (c_X10_who w v152 v153 v154 ) sh_0 (Nat.le_of_ble_eq_true rfl) rfl (Nat.le_of_ble_eq_true rfl) dL_law_773 (fun r155 w156 => ?_)
      refine e_aload_n G (pc := 776) dL_law_776 rfl rfl ?_
      refine e_aload_n G (pc := 777) dL_law_777 rfl rfl ?_
      refine e_iload_n G (pc := 778) dL_law_778 rfl rfl ?_
      refine e_iconst G (pc := 779) (v := 1) dL_law_779 (by decide) ?_
      refine e_iadd G (pc := 780) dL_law_780 ?_
      refine e_sald G (pc := 781) dL_law_781 (fun v157 => ?_)
      refine e_aload_n G (pc := 782) dL_law_782 rfl rfl ?_
      refine e_iload_n G (pc := 783) dL_law_783 rfl rfl ?_
      refine e_iconst G (pc := 784) (v := 2) dL_law_784 (by decide) ?_
      refine e_iadd G (pc := 785) dL_law_785 ?_
      refine e_sald G (pc := 786) dL_law_786 (fun v158 => ?_)
      refine e_aload_n G (pc := 787) dL_law_787 rfl rfl ?_
      refine e_iload_n G (pc := 788) dL_law_788 rfl rfl ?_
      refine e_iconst G (pc := 789) (v := 3) dL_law_789 (by decide) ?_
      refine e_iadd G (pc := 790) dL_law_790 ?_
      refine e_sald G (pc := 791) dL_law_791 (fun v159 => ?_)
      refine e_cVi G (pc := 792) (As := [.int v157, .int v158, .int v159]) (st := [.int r155]) cv_L_88 (c_X11_who w156 v157 v158 v159 ) sh_48 (Nat.le_of_ble_eq_true rfl) rfl (Nat.le_of_ble_eq_true rfl) dL_law_792 (fun r160 w161 => ?_)
      refine e_icmp_eq G (pc := 795) (tgt := 1553) dL_law_795 (by decide) ?_ ?_
      · exact t_L_law_B1553 G k18 hk18 w161 l3 
      · refine e_iconst G (pc := 798) (v := 0) dL_law_798 (by decide) ?_
        exact e_iret dL_law_799
    refine e_ite (fun h171 => ?_) (fun h171 => ?_)
    · refine e_tsIn G (pc := 33) (off := 767) (tgt := 800) dL_law_33 (by rw [h171]; decide) (by rw [h171]; decide) (by rw [h171]; rfl) (by decide) ?_
      refine e_aload_n G (pc := 800) dL_law_800 rfl rfl ?_
      refine e_aload_n G (pc := 801) dL_law_801 rfl rfl ?_
      refine e_iload_n G (pc := 802) dL_law_802 rfl rfl ?_
      refine e_iconst G (pc := 803) (v := 1) dL_law_803 (by decide) ?_
      refine e_iadd G (pc := 804) dL_law_804 ?_
      refine e_sald G (pc := 805) dL_law_805 (fun v163 => ?_)
      refine e_aload_n G (pc := 806) dL_law_806 rfl rfl ?_
      refine e_iload_n G (pc := 807) dL_law_807 rfl rfl ?_
      refine e_iconst G (pc := 808) (v := 2) dL_law_808 (by decide) ?_
      refine e_iadd G (pc := 809) dL_law_809 ?_
      refine e_sald G (pc := 810) dL_law_810 (fun v164 => ?_)
      refine e_cVi G (pc := 811) (As := [.int v163, .int v164]) (st := []) cv_L_89 (c_X10_wish w v163 v164 ) sh_0 (Nat.le_of_ble_eq_true rfl) rfl (Nat.le_of_ble_eq_true rfl) dL_law_811 (fun r165 w166 => ?_)
      refine e_aload_n G (pc := 814) dL_law_814 rfl rfl ?_
      refine e_aload_n G (pc := 815) dL_law_815 rfl rfl ?_
      refine e_iload_n G (pc := 816) dL_law_816 rfl rfl ?_
      refine e_iconst G (pc := 817) (v := 1) dL_law_817 (by decide) ?_
      refine e_iadd G (pc := 818) dL_law_818 ?_
      refine e_sald G (pc := 819) dL_law_819 (fun v167 => ?_)
      refine e_aload_n G (pc := 820) dL_law_820 rfl rfl ?_
      refine e_iload_n G (pc := 821) dL_law_821 rfl rfl ?_
      refine e_iconst G (pc := 822) (v := 2) dL_law_822 (by decide) ?_
      refine e_iadd G (pc := 823) dL_law_823 ?_
      refine e_sald G (pc := 824) dL_law_824 (fun v168 => ?_)
      refine e_cVi G (pc := 825) (As := [.int v167, .int v168]) (st := [.int r165]) cv_L_92 (c_X11_wish w166 v167 v168 ) sh_48 (Nat.le_of_ble_eq_true rfl) rfl (Nat.le_of_ble_eq_true rfl) dL_law_825 (fun r169 w170 => ?_)
      refine e_icmp_eq G (pc := 828) (tgt := 1553) dL_law_828 (by decide) ?_ ?_
      · exact t_L_law_B1553 G k18 hk18 w170 l3 
      · refine e_iconst G (pc := 831) (v := 0) dL_law_831 (by decide) ?_
        exact e_iret dL_law_832
    refine e_ite (fun h180 => ?_) (fun h180 => ?_)
    · refine e_tsIn G (pc := 33) (off := 800) (tgt := 833) dL_law_33 (by rw [h180]; decide) (by rw [h180]; decide) (by rw [h180]; rfl) (by decide) ?_
      refine e_aload_n G (pc := 833) dL_law_833 rfl rfl ?_
      refine e_aload_n G (pc := 834) dL_law_834 rfl rfl ?_
      refine e_iload_n G (pc := 835) dL_law_835 rfl rfl ?_
      refine e_iconst G (pc := 836) (v := 1) dL_law_836 (by decide) ?_
      refine e_iadd G (pc := 837) dL_law_837 ?_
      refine e_sald G (pc := 838) dL_law_838 (fun v172 => ?_)
      refine e_aload_n G (pc := 839) dL_law_839 rfl rfl ?_
      refine e_iload_n G (pc := 840) dL_law_840 rfl rfl ?_
      refine e_iconst G (pc := 841) (v := 2) dL_law_841 (by decide) ?_
      refine e_iadd G (pc := 842) dL_law_842 ?_
      refine e_sald G (pc := 843) dL_law_843 (fun v173 => ?_)
      refine e_cVi G (pc := 844) (As := [.int v172, .int v173]) (st := []) cv_L_93 (c_X10_share w v172 v173 ) sh_0 (Nat.le_of_ble_eq_true rfl) rfl (Nat.le_of_ble_eq_true rfl) dL_law_844 (fun r174 w175 => ?_)
      refine e_aload_n G (pc := 847) dL_law_847 rfl rfl ?_
      refine e_aload_n G (pc := 848) dL_law_848 rfl rfl ?_
      refine e_iload_n G (pc := 849) dL_law_849 rfl rfl ?_
      refine e_iconst G (pc := 850) (v := 1) dL_law_850 (by decide) ?_
      refine e_iadd G (pc := 851) dL_law_851 ?_
      refine e_sald G (pc := 852) dL_law_852 (fun v176 => ?_)
      refine e_aload_n G (pc := 853) dL_law_853 rfl rfl ?_
      refine e_iload_n G (pc := 854) dL_law_854 rfl rfl ?_
      refine e_iconst G (pc := 855) (v := 2) dL_law_855 (by decide) ?_
      refine e_iadd G (pc := 856) dL_law_856 ?_
      refine e_sald G (pc := 857) dL_law_857 (fun v177 => ?_)
      refine e_cVi G (pc := 858) (As := [.int v176, .int v177]) (st := [.int r174]) cv_L_96 (c_X11_share w175 v176 v177 ) sh_48 (Nat.le_of_ble_eq_true rfl) rfl (Nat.le_of_ble_eq_true rfl) dL_law_858 (fun r178 w179 => ?_)
      refine e_icmp_eq G (pc := 861) (tgt := 1553) dL_law_861 (by decide) ?_ ?_
      · exact t_L_law_B1553 G k18 hk18 w179 l3 
      · refine e_iconst G (pc := 864) (v := 0) dL_law_864 (by decide) ?_
        exact e_iret dL_law_865
    refine e_ite (fun h189 => ?_) (fun h189 => ?_)
    · refine e_tsIn G (pc := 33) (off := 833) (tgt := 866) dL_law_33 (by rw [h189]; decide) (by rw [h189]; decide) (by rw [h189]; rfl) (by decide) ?_
      refine e_aload_n G (pc := 866) dL_law_866 rfl rfl ?_
      refine e_aload_n G (pc := 867) dL_law_867 rfl rfl ?_
      refine e_iload_n G (pc := 868) dL_law_868 rfl rfl ?_
      refine e_iconst G (pc := 869) (v := 1) dL_law_869 (by decide) ?_
      refine e_iadd G (pc := 870) dL_law_870 ?_
      refine e_sald G (pc := 871) dL_law_871 (fun v181 => ?_)
      refine e_aload_n G (pc := 872) dL_law_872 rfl rfl ?_
      refine e_iload_n G (pc := 873) dL_law_873 rfl rfl ?_
      refine e_iconst G (pc := 874) (v := 2) dL_law_874 (by decide) ?_
      refine e_iadd G (pc := 875) dL_law_875 ?_
      refine e_sald G (pc := 876) dL_law_876 (fun v182 => ?_)
      refine e_cVi G (pc := 877) (As := [.int v181, .int v182]) (st := []) cv_L_97 (c_X10_late w v181 v182 ) sh_0 (Nat.le_of_ble_eq_true rfl) rfl (Nat.le_of_ble_eq_true rfl) dL_law_877 (fun r183 w184 => ?_)
      refine e_aload_n G (pc := 880) dL_law_880 rfl rfl ?_
      refine e_aload_n G (pc := 881) dL_law_881 rfl rfl ?_
      refine e_iload_n G (pc := 882) dL_law_882 rfl rfl ?_
      refine e_iconst G (pc := 883) (v := 1) dL_law_883 (by decide) ?_
      refine e_iadd G (pc := 884) dL_law_884 ?_
      refine e_sald G (pc := 885) dL_law_885 (fun v185 => ?_)
      refine e_aload_n G (pc := 886) dL_law_886 rfl rfl ?_
      refine e_iload_n G (pc := 887) dL_law_887 rfl rfl ?_
      refine e_iconst G (pc := 888) (v := 2) dL_law_888 (by decide) ?_
      refine e_iadd G (pc := 889) dL_law_889 ?_
      refine e_sald G (pc := 890) dL_law_890 (fun v186 => ?_)
      refine e_cVi G (pc := 891) (As := [.int v185, .int v186]) (st := [.int r183]) cv_L_100 (c_X11_late w184 v185 v186 ) sh_48 (Nat.le_of_ble_eq_true rfl) rfl (Nat.le_of_ble_eq_true rfl) dL_law_891 (fun r187 w188 => ?_)
      refine e_icmp_eq G (pc := 894) (tgt := 1553) dL_law_894 (by decide) ?_ ?_
      · exact t_L_law_B1553 G k18 hk18 w188 l3 
      · refine e_iconst G (pc := 897) (v := 0) dL_law_897 (by decide) ?_
        exact e_iret dL_law_898
    refine e_ite (fun h200 => ?_) (fun h200 => ?_)
    · refine e_tsIn G (pc := 33) (off := 866) (tgt := 899) dL_law_33 (by rw [h200]; decide) (by rw [h200]; decide) (by rw [h200]; rfl) (by decide) ?_
      refine e_aload_n G (pc := 899) dL_law_899 rfl rfl ?_
      refine e_aload_n G (pc := 900) dL_law_900 rfl rfl ?_
      refine e_iload_n G (pc := 901) dL_law_901 rfl rfl ?_
      refine e_iconst G (pc := 902) (v := 1) dL_law_902 (by decide) ?_
      refine e_iadd G (pc := 903) dL_law_903 ?_
      refine e_sald G (pc := 904) dL_law_904 (fun v190 => ?_)
      refine e_aload_n G (pc := 905) dL_law_905 rfl rfl ?_
      refine e_iload_n G (pc := 906) dL_law_906 rfl rfl ?_
      refine e_iconst G (pc := 907) (v := 2) dL_law_907 (by decide) ?_
      refine e_iadd G (pc := 908) dL_law_908 ?_
      refine e_sald G (pc := 909) dL_law_909 (fun v191 => ?_)
      refine e_aload_n G (pc := 910) dL_law_910 rfl rfl ?_
      refine e_iload_n G (pc := 911) dL_law_911 rfl rfl ?_
      refine e_iconst G (pc := 912) (v := 3) dL_law_912 (by decide) ?_
      refine e_iadd G (pc := 913) dL_law_913 ?_
      refine e_sald G (pc := 914) dL_law_914 (fun v192 => ?_)
      refine e_cVi G (pc := 915) (As := [.int v190, .int v191, .int v192]) (st := []) cv_L_101 (c_X10_byTurns w v190 v191 v192 ) sh_0 (Nat.le_of_ble_eq_true rfl) rfl (Nat.le_of_ble_eq_true rfl) dL_law_915 (fun r193 w194 => ?_)
      refine e_aload_n G (pc := 918) dL_law_918 rfl rfl ?_
      refine e_aload_n G (pc := 919) dL_law_919 rfl rfl ?_
      refine e_iload_n G (pc := 920) dL_law_920 rfl rfl ?_
      refine e_iconst G (pc := 921) (v := 1) dL_law_921 (by decide) ?_
      refine e_iadd G (pc := 922) dL_law_922 ?_
      refine e_sald G (pc := 923) dL_law_923 (fun v195 => ?_)
      refine e_aload_n G (pc := 924) dL_law_924 rfl rfl ?_
      refine e_iload_n G (pc := 925) dL_law_925 rfl rfl ?_
      refine e_iconst G (pc := 926) (v := 2) dL_law_926 (by decide) ?_
      refine e_iadd G (pc := 927) dL_law_927 ?_
      refine e_sald G (pc := 928) dL_law_928 (fun v196 => ?_)
      refine e_aload_n G (pc := 929) dL_law_929 rfl rfl ?_
      refine e_iload_n G (pc := 930) dL_law_930 rfl rfl ?_
      refine e_iconst G (pc := 931) (v := 3) dL_law_931 (by decide) ?_
      refine e_iadd G (pc := 932) dL_law_932 ?_
      refine e_sald G (pc := 933) dL_law_933 (fun v197 => ?_)
      refine e_cVi G (pc := 934) (As := [.int v195, .int v196, .int v197]) (st := [.int r193]) cv_L_104 (c_X11_byTurns w194 v195 v196 v197 ) sh_48 (Nat.le_of_ble_eq_true rfl) rfl (Nat.le_of_ble_eq_true rfl) dL_law_934 (fun r198 w199 => ?_)
      refine e_icmp_eq G (pc := 937) (tgt := 1553) dL_law_937 (by decide) ?_ ?_
      · exact t_L_law_B1553 G k18 hk18 w199 l3 
      · refine e_iconst G (pc := 940) (v := 0) dL_law_940 (by decide) ?_
        exact e_iret dL_law_941
    refine e_ite (fun h211 => ?_) (fun h211 => ?_)
    · refine e_tsIn G (pc := 33) (off := 909) (tgt := 942) dL_law_33 (by rw [h211]; decide) (by rw [h211]; decide) (by rw [h211]; rfl) (by decide) ?_
      refine e_aload_n G (pc := 942) dL_law_942 rfl rfl ?_
      refine e_aload_n G (pc := 943) dL_law_943 rfl rfl ?_
      refine e_iload_n G (pc := 944) dL_law_944 rfl rfl ?_
      refine e_iconst G (pc := 945) (v := 1) dL_law_945 (by decide) ?_
      refine e_iadd G (pc := 946) dL_law_946 ?_
      refine e_sald G (pc := 947) dL_law_947 (fun v201 => ?_)
      refine e_aload_n G (pc := 948) dL_law_948 rfl rfl ?_
      refine e_iload_n G (pc := 949) dL_law_949 rfl rfl ?_
      refine e_iconst G (pc := 950) (v := 2) dL_law_950 (by decide) ?_
      refine e_iadd G (pc := 951) dL_law_951 ?_
      refine e_sald G (pc := 952) dL_law_952 (fun v202 => ?_)
      refine e_aload_n G (pc := 953) dL_law_953 rfl rfl ?_
      refine e_iload_n G (pc := 954) dL_law_954 rfl rfl ?_
      refine e_iconst G (pc := 955) (v := 3) dL_law_955 (by decide) ?_
      refine e_iadd G (pc := 956) dL_law_956 ?_
      refine e_sald G (pc := 957) dL_law_957 (fun v203 => ?_)
      refine e_cVi G (pc := 958) (As := [.int v201, .int v202, .int v203]) (st := []) cv_L_105 (c_X10_drawn w v201 v202 v203 ) sh_0 (Nat.le_of_ble_eq_true rfl) rfl (Nat.le_of_ble_eq_true rfl) dL_law_958 (fun r204 w205 => ?_)
      refine e_aload_n G (pc := 961) dL_law_961 rfl rfl ?_
      refine e_aload_n G (pc := 962) dL_law_962 rfl rfl ?_
      refine e_iload_n G (pc := 963) dL_law_963 rfl rfl ?_
      refine e_iconst G (pc := 964) (v := 1) dL_law_964 (by decide) ?_
      refine e_iadd G (pc := 965) dL_law_965 ?_
      refine e_sald G (pc := 966) dL_law_966 (fun v206 => ?_)
      refine e_aload_n G (pc := 967) dL_law_967 rfl rfl ?_
      refine e_iload_n G (pc := 968) dL_law_968 rfl rfl ?_
      refine e_iconst G (pc := 969) (v := 2) dL_law_969 (by decide) ?_
      refine e_iadd G (pc := 970) dL_law_970 ?_
      refine e_sald G (pc := 971) dL_law_971 (fun v207 => ?_)
      refine e_aload_n G (pc := 972) dL_law_972 rfl rfl ?_
      refine e_iload_n G (pc := 973) dL_law_973 rfl rfl ?_
      refine e_iconst G (pc := 974) (v := 3) dL_law_974 (by decide) ?_
      refine e_iadd G (pc := 975) dL_law_975 ?_
      refine e_sald G (pc := 976) dL_law_976 (fun v208 => ?_)
      refine e_cVi G (pc := 977) (As := [.int v206, .int v207, .int v208]) (st := [.int r204]) cv_L_108 (c_X11_drawn w205 v206 v207 v208 ) sh_48 (Nat.le_of_ble_eq_true rfl) rfl (Nat.le_of_ble_eq_true rfl) dL_law_977 (fun r209 w210 => ?_)
      refine e_icmp_eq G (pc := 980) (tgt := 1553) dL_law_980 (by decide) ?_ ?_
      · exact t_L_law_B1553 G k18 hk18 w210 l3 
      · refine e_iconst G (pc := 983) (v := 0) dL_law_983 (by decide) ?_
        exact e_iret dL_law_984
    refine e_ite (fun h216 => ?_) (fun h216 => ?_)
    · refine e_tsIn G (pc := 33) (off := 952) (tgt := 985) dL_law_33 (by rw [h216]; decide) (by rw [h216]; decide) (by rw [h216]; rfl) (by decide) ?_
      refine e_aload_n G (pc := 985) dL_law_985 rfl rfl ?_
      refine e_cVi G (pc := 986) (As := []) (st := []) cv_L_109 (c_X10_passes w  ) sh_0 (Nat.le_of_ble_eq_true rfl) rfl (Nat.le_of_ble_eq_true rfl) dL_law_986 (fun r212 w213 => ?_)
      refine e_aload_n G (pc := 989) dL_law_989 rfl rfl ?_
      refine e_cVi G (pc := 990) (As := []) (st := [.int r212]) cv_L_112 (c_X11_passes w213  ) sh_48 (Nat.le_of_ble_eq_true rfl) rfl (Nat.le_of_ble_eq_true rfl) dL_law_990 (fun r214 w215 => ?_)
      refine e_icmp_eq G (pc := 993) (tgt := 1553) dL_law_993 (by decide) ?_ ?_
      · exact t_L_law_B1553 G k18 hk18 w215 l3 
      · refine e_iconst G (pc := 996) (v := 0) dL_law_996 (by decide) ?_
        exact e_iret dL_law_997
    refine e_ite (fun h225 => ?_) (fun h225 => ?_)
    · refine e_tsIn G (pc := 33) (off := 965) (tgt := 998) dL_law_33 (by rw [h225]; decide) (by rw [h225]; decide) (by rw [h225]; rfl) (by decide) ?_
      refine e_aload_n G (pc := 998) dL_law_998 rfl rfl ?_
      refine e_aload_n G (pc := 999) dL_law_999 rfl rfl ?_
      refine e_iload_n G (pc := 1000) dL_law_1000 rfl rfl ?_
      refine e_iconst G (pc := 1001) (v := 1) dL_law_1001 (by decide) ?_
      refine e_iadd G (pc := 1002) dL_law_1002 ?_
      refine e_sald G (pc := 1003) dL_law_1003 (fun v217 => ?_)
      refine e_aload_n G (pc := 1004) dL_law_1004 rfl rfl ?_
      refine e_iload_n G (pc := 1005) dL_law_1005 rfl rfl ?_
      refine e_iconst G (pc := 1006) (v := 2) dL_law_1006 (by decide) ?_
      refine e_iadd G (pc := 1007) dL_law_1007 ?_
      refine e_sald G (pc := 1008) dL_law_1008 (fun v218 => ?_)
      refine e_cVi G (pc := 1009) (As := [.int v217, .int v218]) (st := []) cv_L_113 (c_X10_steps w v217 v218 ) sh_0 (Nat.le_of_ble_eq_true rfl) rfl (Nat.le_of_ble_eq_true rfl) dL_law_1009 (fun r219 w220 => ?_)
      refine e_aload_n G (pc := 1012) dL_law_1012 rfl rfl ?_
      refine e_aload_n G (pc := 1013) dL_law_1013 rfl rfl ?_
      refine e_iload_n G (pc := 1014) dL_law_1014 rfl rfl ?_
      refine e_iconst G (pc := 1015) (v := 1) dL_law_1015 (by decide) ?_
      refine e_iadd G (pc := 1016) dL_law_1016 ?_
      refine e_sald G (pc := 1017) dL_law_1017 (fun v221 => ?_)
      refine e_aload_n G (pc := 1018) dL_law_1018 rfl rfl ?_
      refine e_iload_n G (pc := 1019) dL_law_1019 rfl rfl ?_
      refine e_iconst G (pc := 1020) (v := 2) dL_law_1020 (by decide) ?_
      refine e_iadd G (pc := 1021) dL_law_1021 ?_
      refine e_sald G (pc := 1022) dL_law_1022 (fun v222 => ?_)
      refine e_cVi G (pc := 1023) (As := [.int v221, .int v222]) (st := [.int r219]) cv_L_116 (c_X11_steps w220 v221 v222 ) sh_48 (Nat.le_of_ble_eq_true rfl) rfl (Nat.le_of_ble_eq_true rfl) dL_law_1023 (fun r223 w224 => ?_)
      refine e_icmp_eq G (pc := 1026) (tgt := 1553) dL_law_1026 (by decide) ?_ ?_
      · exact t_L_law_B1553 G k18 hk18 w224 l3 
      · refine e_iconst G (pc := 1029) (v := 0) dL_law_1029 (by decide) ?_
        exact e_iret dL_law_1030
    refine e_ite (fun h232 => ?_) (fun h232 => ?_)
    · refine e_tsIn G (pc := 33) (off := 998) (tgt := 1031) dL_law_33 (by rw [h232]; decide) (by rw [h232]; decide) (by rw [h232]; rfl) (by decide) ?_
      refine e_aload_n G (pc := 1031) dL_law_1031 rfl rfl ?_
      refine e_aload_n G (pc := 1032) dL_law_1032 rfl rfl ?_
      refine e_iload_n G (pc := 1033) dL_law_1033 rfl rfl ?_
      refine e_iconst G (pc := 1034) (v := 1) dL_law_1034 (by decide) ?_
      refine e_iadd G (pc := 1035) dL_law_1035 ?_
      refine e_sald G (pc := 1036) dL_law_1036 (fun v226 => ?_)
      refine e_cVi G (pc := 1037) (As := [.int v226]) (st := []) cv_L_117 (c_X10_bird w v226 ) sh_0 (Nat.le_of_ble_eq_true rfl) rfl (Nat.le_of_ble_eq_true rfl) dL_law_1037 (fun r227 w228 => ?_)
      refine e_aload_n G (pc := 1040) dL_law_1040 rfl rfl ?_
      refine e_aload_n G (pc := 1041) dL_law_1041 rfl rfl ?_
      refine e_iload_n G (pc := 1042) dL_law_1042 rfl rfl ?_
      refine e_iconst G (pc := 1043) (v := 1) dL_law_1043 (by decide) ?_
      refine e_iadd G (pc := 1044) dL_law_1044 ?_
      refine e_sald G (pc := 1045) dL_law_1045 (fun v229 => ?_)
      refine e_cVi G (pc := 1046) (As := [.int v229]) (st := [.int r227]) cv_L_120 (c_X11_bird w228 v229 ) sh_48 (Nat.le_of_ble_eq_true rfl) rfl (Nat.le_of_ble_eq_true rfl) dL_law_1046 (fun r230 w231 => ?_)
      refine e_icmp_eq G (pc := 1049) (tgt := 1553) dL_law_1049 (by decide) ?_ ?_
      · exact t_L_law_B1553 G k18 hk18 w231 l3 
      · refine e_iconst G (pc := 1052) (v := 0) dL_law_1052 (by decide) ?_
        exact e_iret dL_law_1053
    refine e_ite (fun h241 => ?_) (fun h241 => ?_)
    · refine e_tsIn G (pc := 33) (off := 1021) (tgt := 1054) dL_law_33 (by rw [h241]; decide) (by rw [h241]; decide) (by rw [h241]; rfl) (by decide) ?_
      refine e_aload_n G (pc := 1054) dL_law_1054 rfl rfl ?_
      refine e_aload_n G (pc := 1055) dL_law_1055 rfl rfl ?_
      refine e_iload_n G (pc := 1056) dL_law_1056 rfl rfl ?_
      refine e_iconst G (pc := 1057) (v := 1) dL_law_1057 (by decide) ?_
      refine e_iadd G (pc := 1058) dL_law_1058 ?_
      refine e_sald G (pc := 1059) dL_law_1059 (fun v233 => ?_)
      refine e_aload_n G (pc := 1060) dL_law_1060 rfl rfl ?_
      refine e_iload_n G (pc := 1061) dL_law_1061 rfl rfl ?_
      refine e_iconst G (pc := 1062) (v := 2) dL_law_1062 (by decide) ?_
      refine e_iadd G (pc := 1063) dL_law_1063 ?_
      refine e_sald G (pc := 1064) dL_law_1064 (fun v234 => ?_)
      refine e_cVi G (pc := 1065) (As := [.int v233, .int v234]) (st := []) cv_L_121 (c_X10_goes w v233 v234 ) sh_0 (Nat.le_of_ble_eq_true rfl) rfl (Nat.le_of_ble_eq_true rfl) dL_law_1065 (fun r235 w236 => ?_)
      refine e_aload_n G (pc := 1068) dL_law_1068 rfl rfl ?_
      refine e_aload_n G (pc := 1069) dL_law_1069 rfl rfl ?_
      refine e_iload_n G (pc := 1070) dL_law_1070 rfl rfl ?_
      refine e_iconst G (pc := 1071) (v := 1) dL_law_1071 (by decide) ?_
      refine e_iadd G (pc := 1072) dL_law_1072 ?_
      refine e_sald G (pc := 1073) dL_law_1073 (fun v237 => ?_)
      refine e_aload_n G (pc := 1074) dL_law_1074 rfl rfl ?_
      refine e_iload_n G (pc := 1075) dL_law_1075 rfl rfl ?_
      refine e_iconst G (pc := 1076) (v := 2) dL_law_1076 (by decide) ?_
      refine e_iadd G (pc := 1077) dL_law_1077 ?_
      refine e_sald G (pc := 1078) dL_law_1078 (fun v238 => ?_)
      refine e_cVi G (pc := 1079) (As := [.int v237, .int v238]) (st := [.int r235]) cv_L_124 (c_X11_goes w236 v237 v238 ) sh_48 (Nat.le_of_ble_eq_true rfl) rfl (Nat.le_of_ble_eq_true rfl) dL_law_1079 (fun r239 w240 => ?_)
      refine e_icmp_eq G (pc := 1082) (tgt := 1553) dL_law_1082 (by decide) ?_ ?_
      · exact t_L_law_B1553 G k18 hk18 w240 l3 
      · refine e_iconst G (pc := 1085) (v := 0) dL_law_1085 (by decide) ?_
        exact e_iret dL_law_1086
    refine e_ite (fun h248 => ?_) (fun h248 => ?_)
    · refine e_tsIn G (pc := 33) (off := 1054) (tgt := 1087) dL_law_33 (by rw [h248]; decide) (by rw [h248]; decide) (by rw [h248]; rfl) (by decide) ?_
      refine e_aload_n G (pc := 1087) dL_law_1087 rfl rfl ?_
      refine e_aload_n G (pc := 1088) dL_law_1088 rfl rfl ?_
      refine e_iload_n G (pc := 1089) dL_law_1089 rfl rfl ?_
      refine e_iconst G (pc := 1090) (v := 1) dL_law_1090 (by decide) ?_
      refine e_iadd G (pc := 1091) dL_law_1091 ?_
      refine e_sald G (pc := 1092) dL_law_1092 (fun v242 => ?_)
      refine e_cVi G (pc := 1093) (As := [.int v242]) (st := []) cv_L_125 (c_X10_led w v242 ) sh_0 (Nat.le_of_ble_eq_true rfl) rfl (Nat.le_of_ble_eq_true rfl) dL_law_1093 (fun r243 w244 => ?_)
      refine e_aload_n G (pc := 1096) dL_law_1096 rfl rfl ?_
      refine e_aload_n G (pc := 1097) dL_law_1097 rfl rfl ?_
      refine e_iload_n G (pc := 1098) dL_law_1098 rfl rfl ?_
      refine e_iconst G (pc := 1099) (v := 1) dL_law_1099 (by decide) ?_
      refine e_iadd G (pc := 1100) dL_law_1100 ?_
      refine e_sald G (pc := 1101) dL_law_1101 (fun v245 => ?_)
      refine e_cVi G (pc := 1102) (As := [.int v245]) (st := [.int r243]) cv_L_128 (c_X11_led w244 v245 ) sh_48 (Nat.le_of_ble_eq_true rfl) rfl (Nat.le_of_ble_eq_true rfl) dL_law_1102 (fun r246 w247 => ?_)
      refine e_icmp_eq G (pc := 1105) (tgt := 1553) dL_law_1105 (by decide) ?_ ?_
      · exact t_L_law_B1553 G k18 hk18 w247 l3 
      · refine e_iconst G (pc := 1108) (v := 0) dL_law_1108 (by decide) ?_
        exact e_iret dL_law_1109
    refine e_ite (fun h253 => ?_) (fun h253 => ?_)
    · refine e_tsIn G (pc := 33) (off := 1077) (tgt := 1110) dL_law_33 (by rw [h253]; decide) (by rw [h253]; decide) (by rw [h253]; rfl) (by decide) ?_
      refine e_aload_n G (pc := 1110) dL_law_1110 rfl rfl ?_
      refine e_cVi G (pc := 1111) (As := []) (st := []) cv_L_129 (c_X10_image w  ) sh_0 (Nat.le_of_ble_eq_true rfl) rfl (Nat.le_of_ble_eq_true rfl) dL_law_1111 (fun r249 w250 => ?_)
      refine e_aload_n G (pc := 1114) dL_law_1114 rfl rfl ?_
      refine e_cVi G (pc := 1115) (As := []) (st := [.int r249]) cv_L_132 (c_X11_image w250  ) sh_48 (Nat.le_of_ble_eq_true rfl) rfl (Nat.le_of_ble_eq_true rfl) dL_law_1115 (fun r251 w252 => ?_)
      refine e_icmp_eq G (pc := 1118) (tgt := 1553) dL_law_1118 (by decide) ?_ ?_
      · exact t_L_law_B1553 G k18 hk18 w252 l3 
      · refine e_iconst G (pc := 1121) (v := 0) dL_law_1121 (by decide) ?_
        exact e_iret dL_law_1122
    refine e_ite (fun h258 => ?_) (fun h258 => ?_)
    · refine e_tsIn G (pc := 33) (off := 1090) (tgt := 1123) dL_law_33 (by rw [h258]; decide) (by rw [h258]; decide) (by rw [h258]; rfl) (by decide) ?_
      refine e_aload_n G (pc := 1123) dL_law_1123 rfl rfl ?_
      refine e_cVi G (pc := 1124) (As := []) (st := []) cv_L_133 (c_X10_back w  ) sh_0 (Nat.le_of_ble_eq_true rfl) rfl (Nat.le_of_ble_eq_true rfl) dL_law_1124 (fun r254 w255 => ?_)
      refine e_aload_n G (pc := 1127) dL_law_1127 rfl rfl ?_
      refine e_cVi G (pc := 1128) (As := []) (st := [.int r254]) cv_L_136 (c_X11_back w255  ) sh_48 (Nat.le_of_ble_eq_true rfl) rfl (Nat.le_of_ble_eq_true rfl) dL_law_1128 (fun r256 w257 => ?_)
      refine e_icmp_eq G (pc := 1131) (tgt := 1553) dL_law_1131 (by decide) ?_ ?_
      · exact t_L_law_B1553 G k18 hk18 w257 l3 
      · refine e_iconst G (pc := 1134) (v := 0) dL_law_1134 (by decide) ?_
        exact e_iret dL_law_1135
    refine e_ite (fun h263 => ?_) (fun h263 => ?_)
    · refine e_tsIn G (pc := 33) (off := 1103) (tgt := 1136) dL_law_33 (by rw [h263]; decide) (by rw [h263]; decide) (by rw [h263]; rfl) (by decide) ?_
      refine e_aload_n G (pc := 1136) dL_law_1136 rfl rfl ?_
      refine e_cVi G (pc := 1137) (As := []) (st := []) cv_L_137 (c_X10_undo w  ) sh_0 (Nat.le_of_ble_eq_true rfl) rfl (Nat.le_of_ble_eq_true rfl) dL_law_1137 (fun r259 w260 => ?_)
      refine e_aload_n G (pc := 1140) dL_law_1140 rfl rfl ?_
      refine e_cVi G (pc := 1141) (As := []) (st := [.int r259]) cv_L_140 (c_X11_undo w260  ) sh_48 (Nat.le_of_ble_eq_true rfl) rfl (Nat.le_of_ble_eq_true rfl) dL_law_1141 (fun r261 w262 => ?_)
      refine e_icmp_eq G (pc := 1144) (tgt := 1553) dL_law_1144 (by decide) ?_ ?_
      · exact t_L_law_B1553 G k18 hk18 w262 l3 
      · refine e_iconst G (pc := 1147) (v := 0) dL_law_1147 (by decide) ?_
        exact e_iret dL_law_1148
    refine e_ite (fun h268 => ?_) (fun h268 => ?_)
    · refine e_tsIn G (pc := 33) (off := 1116) (tgt := 1149) dL_law_33 (by rw [h268]; decide) (by rw [h268]; decide) (by rw [h268]; rfl) (by decide) ?_
      refine e_aload_n G (pc := 1149) dL_law_1149 rfl rfl ?_
      refine e_cVi G (pc := 1150) (As := []) (st := []) cv_L_141 (c_X10_redo w  ) sh_0 (Nat.le_of_ble_eq_true rfl) rfl (Nat.le_of_ble_eq_true rfl) dL_law_1150 (fun r264 w265 => ?_)
      refine e_aload_n G (pc := 1153) dL_law_1153 rfl rfl ?_
      refine e_cVi G (pc := 1154) (As := []) (st := [.int r264]) cv_L_144 (c_X11_redo w265  ) sh_48 (Nat.le_of_ble_eq_true rfl) rfl (Nat.le_of_ble_eq_true rfl) dL_law_1154 (fun r266 w267 => ?_)
      refine e_icmp_eq G (pc := 1157) (tgt := 1553) dL_law_1157 (by decide) ?_ ?_
      · exact t_L_law_B1553 G k18 hk18 w267 l3 
      · refine e_iconst G (pc := 1160) (v := 0) dL_law_1160 (by decide) ?_
        exact e_iret dL_law_1161
    refine e_ite (fun h275 => ?_) (fun h275 => ?_)
    · refine e_tsIn G (pc := 33) (off := 1129) (tgt := 1162) dL_law_33 (by rw [h275]; decide) (by rw [h275]; decide) (by rw [h275]; rfl) (by decide) ?_
      refine e_aload_n G (pc := 1162) dL_law_1162 rfl rfl ?_
      refine e_aload_n G (pc := 1163) dL_law_1163 rfl rfl ?_
      refine e_iload_n G (pc := 1164) dL_law_1164 rfl rfl ?_
      refine e_iconst G (pc := 1165) (v := 1) dL_law_1165 (by decide) ?_
      refine e_iadd G (pc := 1166) dL_law_1166 ?_
      refine e_sald G (pc := 1167) dL_law_1167 (fun v269 => ?_)
      refine e_cVi G (pc := 1168) (As := [.int v269]) (st := []) cv_L_145 (c_X10_body w v269 ) sh_0 (Nat.le_of_ble_eq_true rfl) rfl (Nat.le_of_ble_eq_true rfl) dL_law_1168 (fun r270 w271 => ?_)
      refine e_aload_n G (pc := 1171) dL_law_1171 rfl rfl ?_
      refine e_aload_n G (pc := 1172) dL_law_1172 rfl rfl ?_
      refine e_iload_n G (pc := 1173) dL_law_1173 rfl rfl ?_
      refine e_iconst G (pc := 1174) (v := 1) dL_law_1174 (by decide) ?_
      refine e_iadd G (pc := 1175) dL_law_1175 ?_
      refine e_sald G (pc := 1176) dL_law_1176 (fun v272 => ?_)
      refine e_cVi G (pc := 1177) (As := [.int v272]) (st := [.int r270]) cv_L_148 (c_X11_body w271 v272 ) sh_48 (Nat.le_of_ble_eq_true rfl) rfl (Nat.le_of_ble_eq_true rfl) dL_law_1177 (fun r273 w274 => ?_)
      refine e_icmp_eq G (pc := 1180) (tgt := 1553) dL_law_1180 (by decide) ?_ ?_
      · exact t_L_law_B1553 G k18 hk18 w274 l3 
      · refine e_iconst G (pc := 1183) (v := 0) dL_law_1183 (by decide) ?_
        exact e_iret dL_law_1184
    refine e_ite (fun h286 => ?_) (fun h286 => ?_)
    · refine e_tsIn G (pc := 33) (off := 1152) (tgt := 1185) dL_law_33 (by rw [h286]; decide) (by rw [h286]; decide) (by rw [h286]; rfl) (by decide) ?_
      refine e_aload_n G (pc := 1185) dL_law_1185 rfl rfl ?_
      refine e_aload_n G (pc := 1186) dL_law_1186 rfl rfl ?_
      refine e_iload_n G (pc := 1187) dL_law_1187 rfl rfl ?_
      refine e_iconst G (pc := 1188) (v := 1) dL_law_1188 (by decide) ?_
      refine e_iadd G (pc := 1189) dL_law_1189 ?_
      refine e_sald G (pc := 1190) dL_law_1190 (fun v276 => ?_)
      refine e_aload_n G (pc := 1191) dL_law_1191 rfl rfl ?_
      refine e_iload_n G (pc := 1192) dL_law_1192 rfl rfl ?_
      refine e_iconst G (pc := 1193) (v := 2) dL_law_1193 (by decide) ?_
      refine e_iadd G (pc := 1194) dL_law_1194 ?_
      refine e_sald G (pc := 1195) dL_law_1195 (fun v277 => ?_)
      refine e_aload_n G (pc := 1196) dL_law_1196 rfl rfl ?_
      refine e_iload_n G (pc := 1197) dL_law_1197 rfl rfl ?_
      refine e_iconst G (pc := 1198) (v := 3) dL_law_1198 (by decide) ?_
      refine e_iadd G (pc := 1199) dL_law_1199 ?_
      refine e_sald G (pc := 1200) dL_law_1200 (fun v278 => ?_)
      refine e_cVi G (pc := 1201) (As := [.int v276, .int v277, .int v278]) (st := []) cv_L_149 (c_X10_act w v276 v277 v278 ) sh_0 (Nat.le_of_ble_eq_true rfl) rfl (Nat.le_of_ble_eq_true rfl) dL_law_1201 (fun r279 w280 => ?_)
      refine e_aload_n G (pc := 1204) dL_law_1204 rfl rfl ?_
      refine e_aload_n G (pc := 1205) dL_law_1205 rfl rfl ?_
      refine e_iload_n G (pc := 1206) dL_law_1206 rfl rfl ?_
      refine e_iconst G (pc := 1207) (v := 1) dL_law_1207 (by decide) ?_
      refine e_iadd G (pc := 1208) dL_law_1208 ?_
      refine e_sald G (pc := 1209) dL_law_1209 (fun v281 => ?_)
      refine e_aload_n G (pc := 1210) dL_law_1210 rfl rfl ?_
      refine e_iload_n G (pc := 1211) dL_law_1211 rfl rfl ?_
      refine e_iconst G (pc := 1212) (v := 2) dL_law_1212 (by decide) ?_
      refine e_iadd G (pc := 1213) dL_law_1213 ?_
      refine e_sald G (pc := 1214) dL_law_1214 (fun v282 => ?_)
      refine e_aload_n G (pc := 1215) dL_law_1215 rfl rfl ?_
      refine e_iload_n G (pc := 1216) dL_law_1216 rfl rfl ?_
      refine e_iconst G (pc := 1217) (v := 3) dL_law_1217 (by decide) ?_
      refine e_iadd G (pc := 1218) dL_law_1218 ?_
      refine e_sald G (pc := 1219) dL_law_1219 (fun v283 => ?_)
      refine e_cVi G (pc := 1220) (As := [.int v281, .int v282, .int v283]) (st := [.int r279]) cv_L_152 (c_X11_act w280 v281 v282 v283 ) sh_48 (Nat.le_of_ble_eq_true rfl) rfl (Nat.le_of_ble_eq_true rfl) dL_law_1220 (fun r284 w285 => ?_)
      refine e_icmp_eq G (pc := 1223) (tgt := 1553) dL_law_1223 (by decide) ?_ ?_
      · exact t_L_law_B1553 G k18 hk18 w285 l3 
      · refine e_iconst G (pc := 1226) (v := 0) dL_law_1226 (by decide) ?_
        exact e_iret dL_law_1227
    refine e_ite (fun h293 => ?_) (fun h293 => ?_)
    · refine e_tsIn G (pc := 33) (off := 1195) (tgt := 1228) dL_law_33 (by rw [h293]; decide) (by rw [h293]; decide) (by rw [h293]; rfl) (by decide) ?_
      refine e_aload_n G (pc := 1228) dL_law_1228 rfl rfl ?_
      refine e_aload_n G (pc := 1229) dL_law_1229 rfl rfl ?_
      refine e_iload_n G (pc := 1230) dL_law_1230 rfl rfl ?_
      refine e_iconst G (pc := 1231) (v := 1) dL_law_1231 (by decide) ?_
      refine e_iadd G (pc := 1232) dL_law_1232 ?_
      refine e_sald G (pc := 1233) dL_law_1233 (fun v287 => ?_)
      refine e_cVi G (pc := 1234) (As := [.int v287]) (st := []) cv_L_153 (c_X10_trace w v287 ) sh_0 (Nat.le_of_ble_eq_true rfl) rfl (Nat.le_of_ble_eq_true rfl) dL_law_1234 (fun r288 w289 => ?_)
      refine e_aload_n G (pc := 1237) dL_law_1237 rfl rfl ?_
      refine e_aload_n G (pc := 1238) dL_law_1238 rfl rfl ?_
      refine e_iload_n G (pc := 1239) dL_law_1239 rfl rfl ?_
      refine e_iconst G (pc := 1240) (v := 1) dL_law_1240 (by decide) ?_
      refine e_iadd G (pc := 1241) dL_law_1241 ?_
      refine e_sald G (pc := 1242) dL_law_1242 (fun v290 => ?_)
      refine e_cVi G (pc := 1243) (As := [.int v290]) (st := [.int r288]) cv_L_156 (c_X11_trace w289 v290 ) sh_48 (Nat.le_of_ble_eq_true rfl) rfl (Nat.le_of_ble_eq_true rfl) dL_law_1243 (fun r291 w292 => ?_)
      refine e_icmp_eq G (pc := 1246) (tgt := 1553) dL_law_1246 (by decide) ?_ ?_
      · exact t_L_law_B1553 G k18 hk18 w292 l3 
      · refine e_iconst G (pc := 1249) (v := 0) dL_law_1249 (by decide) ?_
        exact e_iret dL_law_1250
    refine e_ite (fun h302 => ?_) (fun h302 => ?_)
    · refine e_tsIn G (pc := 33) (off := 1218) (tgt := 1251) dL_law_33 (by rw [h302]; decide) (by rw [h302]; decide) (by rw [h302]; rfl) (by decide) ?_
      refine e_aload_n G (pc := 1251) dL_law_1251 rfl rfl ?_
      refine e_aload_n G (pc := 1252) dL_law_1252 rfl rfl ?_
      refine e_iload_n G (pc := 1253) dL_law_1253 rfl rfl ?_
      refine e_iconst G (pc := 1254) (v := 1) dL_law_1254 (by decide) ?_
      refine e_iadd G (pc := 1255) dL_law_1255 ?_
      refine e_sald G (pc := 1256) dL_law_1256 (fun v294 => ?_)
      refine e_aload_n G (pc := 1257) dL_law_1257 rfl rfl ?_
      refine e_iload_n G (pc := 1258) dL_law_1258 rfl rfl ?_
      refine e_iconst G (pc := 1259) (v := 2) dL_law_1259 (by decide) ?_
      refine e_iadd G (pc := 1260) dL_law_1260 ?_
      refine e_sald G (pc := 1261) dL_law_1261 (fun v295 => ?_)
      refine e_cVi G (pc := 1262) (As := [.int v294, .int v295]) (st := []) cv_L_157 (c_X10_keep w v294 v295 ) sh_0 (Nat.le_of_ble_eq_true rfl) rfl (Nat.le_of_ble_eq_true rfl) dL_law_1262 (fun r296 w297 => ?_)
      refine e_aload_n G (pc := 1265) dL_law_1265 rfl rfl ?_
      refine e_aload_n G (pc := 1266) dL_law_1266 rfl rfl ?_
      refine e_iload_n G (pc := 1267) dL_law_1267 rfl rfl ?_
      refine e_iconst G (pc := 1268) (v := 1) dL_law_1268 (by decide) ?_
      refine e_iadd G (pc := 1269) dL_law_1269 ?_
      refine e_sald G (pc := 1270) dL_law_1270 (fun v298 => ?_)
      refine e_aload_n G (pc := 1271) dL_law_1271 rfl rfl ?_
      refine e_iload_n G (pc := 1272) dL_law_1272 rfl rfl ?_
      refine e_iconst G (pc := 1273) (v := 2) dL_law_1273 (by decide) ?_
      refine e_iadd G (pc := 1274) dL_law_1274 ?_
      refine e_sald G (pc := 1275) dL_law_1275 (fun v299 => ?_)
      refine e_cVi G (pc := 1276) (As := [.int v298, .int v299]) (st := [.int r296]) cv_L_160 (c_X11_keep w297 v298 v299 ) sh_48 (Nat.le_of_ble_eq_true rfl) rfl (Nat.le_of_ble_eq_true rfl) dL_law_1276 (fun r300 w301 => ?_)
      refine e_icmp_eq G (pc := 1279) (tgt := 1553) dL_law_1279 (by decide) ?_ ?_
      · exact t_L_law_B1553 G k18 hk18 w301 l3 
      · refine e_iconst G (pc := 1282) (v := 0) dL_law_1282 (by decide) ?_
        exact e_iret dL_law_1283
    refine e_ite (fun h313 => ?_) (fun h313 => ?_)
    · refine e_tsIn G (pc := 33) (off := 1251) (tgt := 1284) dL_law_33 (by rw [h313]; decide) (by rw [h313]; decide) (by rw [h313]; rfl) (by decide) ?_
      refine e_aload_n G (pc := 1284) dL_law_1284 rfl rfl ?_
      refine e_aload_n G (pc := 1285) dL_law_1285 rfl rfl ?_
      refine e_iload_n G (pc := 1286) dL_law_1286 rfl rfl ?_
      refine e_iconst G (pc := 1287) (v := 1) dL_law_1287 (by decide) ?_
      refine e_iadd G (pc := 1288) dL_law_1288 ?_
      refine e_sald G (pc := 1289) dL_law_1289 (fun v303 => ?_)
      refine e_aload_n G (pc := 1290) dL_law_1290 rfl rfl ?_
      refine e_iload_n G (pc := 1291) dL_law_1291 rfl rfl ?_
      refine e_iconst G (pc := 1292) (v := 2) dL_law_1292 (by decide) ?_
      refine e_iadd G (pc := 1293) dL_law_1293 ?_
      refine e_sald G (pc := 1294) dL_law_1294 (fun v304 => ?_)
      refine e_aload_n G (pc := 1295) dL_law_1295 rfl rfl ?_
      refine e_iload_n G (pc := 1296) dL_law_1296 rfl rfl ?_
      refine e_iconst G (pc := 1297) (v := 3) dL_law_1297 (by decide) ?_
      refine e_iadd G (pc := 1298) dL_law_1298 ?_
      refine e_sald G (pc := 1299) dL_law_1299 (fun v305 => ?_)
      refine e_cVi G (pc := 1300) (As := [.int v303, .int v304, .int v305]) (st := []) cv_L_161 (c_X10_row w v303 v304 v305 ) sh_0 (Nat.le_of_ble_eq_true rfl) rfl (Nat.le_of_ble_eq_true rfl) dL_law_1300 (fun r306 w307 => ?_)
      refine e_aload_n G (pc := 1303) dL_law_1303 rfl rfl ?_
      refine e_aload_n G (pc := 1304) dL_law_1304 rfl rfl ?_
      refine e_iload_n G (pc := 1305) dL_law_1305 rfl rfl ?_
      refine e_iconst G (pc := 1306) (v := 1) dL_law_1306 (by decide) ?_
      refine e_iadd G (pc := 1307) dL_law_1307 ?_
      refine e_sald G (pc := 1308) dL_law_1308 (fun v308 => ?_)
      refine e_aload_n G (pc := 1309) dL_law_1309 rfl rfl ?_
      refine e_iload_n G (pc := 1310) dL_law_1310 rfl rfl ?_
      refine e_iconst G (pc := 1311) (v := 2) dL_law_1311 (by decide) ?_
      refine e_iadd G (pc := 1312) dL_law_1312 ?_
      refine e_sald G (pc := 1313) dL_law_1313 (fun v309 => ?_)
      refine e_aload_n G (pc := 1314) dL_law_1314 rfl rfl ?_
      refine e_iload_n G (pc := 1315) dL_law_1315 rfl rfl ?_
      refine e_iconst G (pc := 1316) (v := 3) dL_law_1316 (by decide) ?_
      refine e_iadd G (pc := 1317) dL_law_1317 ?_
      refine e_sald G (pc := 1318) dL_law_1318 (fun v310 => ?_)
      refine e_cVi G (pc := 1319) (As := [.int v308, .int v309, .int v310]) (st := [.int r306]) cv_L_164 (c_X11_row w307 v308 v309 v310 ) sh_48 (Nat.le_of_ble_eq_true rfl) rfl (Nat.le_of_ble_eq_true rfl) dL_law_1319 (fun r311 w312 => ?_)
      refine e_icmp_eq G (pc := 1322) (tgt := 1553) dL_law_1322 (by decide) ?_ ?_
      · exact t_L_law_B1553 G k18 hk18 w312 l3 
      · refine e_iconst G (pc := 1325) (v := 0) dL_law_1325 (by decide) ?_
        exact e_iret dL_law_1326
    refine e_ite (fun h326 => ?_) (fun h326 => ?_)
    · refine e_tsIn G (pc := 33) (off := 1294) (tgt := 1327) dL_law_33 (by rw [h326]; decide) (by rw [h326]; decide) (by rw [h326]; rfl) (by decide) ?_
      refine e_aload_n G (pc := 1327) dL_law_1327 rfl rfl ?_
      refine e_aload_n G (pc := 1328) dL_law_1328 rfl rfl ?_
      refine e_iload_n G (pc := 1329) dL_law_1329 rfl rfl ?_
      refine e_iconst G (pc := 1330) (v := 1) dL_law_1330 (by decide) ?_
      refine e_iadd G (pc := 1331) dL_law_1331 ?_
      refine e_sald G (pc := 1332) dL_law_1332 (fun v314 => ?_)
      refine e_aload_n G (pc := 1333) dL_law_1333 rfl rfl ?_
      refine e_iload_n G (pc := 1334) dL_law_1334 rfl rfl ?_
      refine e_iconst G (pc := 1335) (v := 2) dL_law_1335 (by decide) ?_
      refine e_iadd G (pc := 1336) dL_law_1336 ?_
      refine e_sald G (pc := 1337) dL_law_1337 (fun v315 => ?_)
      refine e_aload_n G (pc := 1338) dL_law_1338 rfl rfl ?_
      refine e_iload_n G (pc := 1339) dL_law_1339 rfl rfl ?_
      refine e_iconst G (pc := 1340) (v := 3) dL_law_1340 (by decide) ?_
      refine e_iadd G (pc := 1341) dL_law_1341 ?_
      refine e_sald G (pc := 1342) dL_law_1342 (fun v316 => ?_)
      refine e_i2l G (pc := 1343) dL_law_1343 ?_
      refine e_bipush G (pc := 1344) (v := 32) dL_law_1344 (by decide) ?_
      refine e_lshl G (pc := 1346) dL_law_1346 ?_
      refine e_aload_n G (pc := 1347) dL_law_1347 rfl rfl ?_
      refine e_iload_n G (pc := 1348) dL_law_1348 rfl rfl ?_
      refine e_iconst G (pc := 1349) (v := 4) dL_law_1349 (by decide) ?_
      refine e_iadd G (pc := 1350) dL_law_1350 ?_
      refine e_sald G (pc := 1351) dL_law_1351 (fun v317 => ?_)
      refine e_i2l G (pc := 1352) dL_law_1352 ?_
      refine e_ldc2 G (pc := 1353) kl_L_165 dL_law_1353 ?_
      refine e_land G (pc := 1356) dL_law_1356 ?_
      refine e_lor G (pc := 1357) dL_law_1357 ?_
      refine e_cVi G (pc := 1358) (As := [.int v314, .int v315, .long (((Int32.toInt64 v316) <<< (Int32.toInt64 32 &&& 63)) ||| ((Int32.toInt64 v317) &&& 4294967295))]) (st := []) cv_L_167 (c_X10_put w v314 v315 (((Int32.toInt64 v316) <<< (Int32.toInt64 32 &&& 63)) ||| ((Int32.toInt64 v317) &&& 4294967295)) ) sh_0 (Nat.le_of_ble_eq_true rfl) rfl (Nat.le_of_ble_eq_true rfl) dL_law_1358 (fun r318 w319 => ?_)
      refine e_aload_n G (pc := 1361) dL_law_1361 rfl rfl ?_
      refine e_aload_n G (pc := 1362) dL_law_1362 rfl rfl ?_
      refine e_iload_n G (pc := 1363) dL_law_1363 rfl rfl ?_
      refine e_iconst G (pc := 1364) (v := 1) dL_law_1364 (by decide) ?_
      refine e_iadd G (pc := 1365) dL_law_1365 ?_
      refine e_sald G (pc := 1366) dL_law_1366 (fun v320 => ?_)
      refine e_aload_n G (pc := 1367) dL_law_1367 rfl rfl ?_
      refine e_iload_n G (pc := 1368) dL_law_1368 rfl rfl ?_
      refine e_iconst G (pc := 1369) (v := 2) dL_law_1369 (by decide) ?_
      refine e_iadd G (pc := 1370) dL_law_1370 ?_
      refine e_sald G (pc := 1371) dL_law_1371 (fun v321 => ?_)
      refine e_aload_n G (pc := 1372) dL_law_1372 rfl rfl ?_
      refine e_iload_n G (pc := 1373) dL_law_1373 rfl rfl ?_
      refine e_iconst G (pc := 1374) (v := 3) dL_law_1374 (by decide) ?_
      refine e_iadd G (pc := 1375) dL_law_1375 ?_
      refine e_sald G (pc := 1376) dL_law_1376 (fun v322 => ?_)
      refine e_i2l G (pc := 1377) dL_law_1377 ?_
      refine e_bipush G (pc := 1378) (v := 32) dL_law_1378 (by decide) ?_
      refine e_lshl G (pc := 1380) dL_law_1380 ?_
      refine e_aload_n G (pc := 1381) dL_law_1381 rfl rfl ?_
      refine e_iload_n G (pc := 1382) dL_law_1382 rfl rfl ?_
      refine e_iconst G (pc := 1383) (v := 4) dL_law_1383 (by decide) ?_
      refine e_iadd G (pc := 1384) dL_law_1384 ?_
      refine e_sald G (pc := 1385) dL_law_1385 (fun v323 => ?_)
      refine e_i2l G (pc := 1386) dL_law_1386 ?_
      refine e_ldc2 G (pc := 1387) kl_L_165 dL_law_1387 ?_
      refine e_land G (pc := 1390) dL_law_1390 ?_
      refine e_lor G (pc := 1391) dL_law_1391 ?_
      refine e_cVi G (pc := 1392) (As := [.int v320, .int v321, .long (((Int32.toInt64 v322) <<< (Int32.toInt64 32 &&& 63)) ||| ((Int32.toInt64 v323) &&& 4294967295))]) (st := [.int r318]) cv_L_171 (c_X11_put w319 v320 v321 (((Int32.toInt64 v322) <<< (Int32.toInt64 32 &&& 63)) ||| ((Int32.toInt64 v323) &&& 4294967295)) ) sh_48 (Nat.le_of_ble_eq_true rfl) rfl (Nat.le_of_ble_eq_true rfl) dL_law_1392 (fun r324 w325 => ?_)
      refine e_icmp_eq G (pc := 1395) (tgt := 1553) dL_law_1395 (by decide) ?_ ?_
      · exact t_L_law_B1553 G k18 hk18 w325 l3 
      · refine e_iconst G (pc := 1398) (v := 0) dL_law_1398 (by decide) ?_
        exact e_iret dL_law_1399
    refine e_ite (fun h335 => ?_) (fun h335 => ?_)
    · refine e_tsIn G (pc := 33) (off := 1367) (tgt := 1400) dL_law_33 (by rw [h335]; decide) (by rw [h335]; decide) (by rw [h335]; rfl) (by decide) ?_
      refine e_aload_n G (pc := 1400) dL_law_1400 rfl rfl ?_
      refine e_aload_n G (pc := 1401) dL_law_1401 rfl rfl ?_
      refine e_iload_n G (pc := 1402) dL_law_1402 rfl rfl ?_
      refine e_iconst G (pc := 1403) (v := 1) dL_law_1403 (by decide) ?_
      refine e_iadd G (pc := 1404) dL_law_1404 ?_
      refine e_sald G (pc := 1405) dL_law_1405 (fun v327 => ?_)
      refine e_aload_n G (pc := 1406) dL_law_1406 rfl rfl ?_
      refine e_iload_n G (pc := 1407) dL_law_1407 rfl rfl ?_
      refine e_iconst G (pc := 1408) (v := 2) dL_law_1408 (by decide) ?_
      refine e_iadd G (pc := 1409) dL_law_1409 ?_
      refine e_sald G (pc := 1410) dL_law_1410 (fun v328 => ?_)
      refine e_cVl G (pc := 1411) (As := [.int v327, .int v328]) (st := []) cv_L_172 (c_X10_element w v327 v328 ) sh_0 (Nat.le_of_ble_eq_true rfl) rfl (Nat.le_of_ble_eq_true rfl) dL_law_1411 (fun r329 w330 => ?_)
      refine e_aload_n G (pc := 1414) dL_law_1414 rfl rfl ?_
      refine e_aload_n G (pc := 1415) dL_law_1415 rfl rfl ?_
      refine e_iload_n G (pc := 1416) dL_law_1416 rfl rfl ?_
      refine e_iconst G (pc := 1417) (v := 1) dL_law_1417 (by decide) ?_
      refine e_iadd G (pc := 1418) dL_law_1418 ?_
      refine e_sald G (pc := 1419) dL_law_1419 (fun v331 => ?_)
      refine e_aload_n G (pc := 1420) dL_law_1420 rfl rfl ?_
      refine e_iload_n G (pc := 1421) dL_law_1421 rfl rfl ?_
      refine e_iconst G (pc := 1422) (v := 2) dL_law_1422 (by decide) ?_
      refine e_iadd G (pc := 1423) dL_law_1423 ?_
      refine e_sald G (pc := 1424) dL_law_1424 (fun v332 => ?_)
      refine e_cVl G (pc := 1425) (As := [.int v331, .int v332]) (st := [.long r329]) cv_L_176 (c_X11_element w330 v331 v332 ) sh_48 (Nat.le_of_ble_eq_true rfl) rfl (Nat.le_of_ble_eq_true rfl) dL_law_1425 (fun r333 w334 => ?_)
      refine e_lcmp G (pc := 1428) dL_law_1428 ?_
      refine e_if_eq G (pc := 1429) (tgt := 1553) dL_law_1429 (by decide) ?_ ?_
      · exact t_L_law_B1553 G k18 hk18 w334 l3 
      · refine e_iconst G (pc := 1432) (v := 0) dL_law_1432 (by decide) ?_
        exact e_iret dL_law_1433
    refine e_ite (fun h350 => ?_) (fun h350 => ?_)
    · refine e_tsIn G (pc := 33) (off := 1401) (tgt := 1434) dL_law_33 (by rw [h350]; decide) (by rw [h350]; decide) (by rw [h350]; rfl) (by decide) ?_
      refine e_aload_n G (pc := 1434) dL_law_1434 rfl rfl ?_
      refine e_aload_n G (pc := 1435) dL_law_1435 rfl rfl ?_
      refine e_iload_n G (pc := 1436) dL_law_1436 rfl rfl ?_
      refine e_iconst G (pc := 1437) (v := 1) dL_law_1437 (by decide) ?_
      refine e_iadd G (pc := 1438) dL_law_1438 ?_
      refine e_sald G (pc := 1439) dL_law_1439 (fun v336 => ?_)
      refine e_aload_n G (pc := 1440) dL_law_1440 rfl rfl ?_
      refine e_iload_n G (pc := 1441) dL_law_1441 rfl rfl ?_
      refine e_iconst G (pc := 1442) (v := 2) dL_law_1442 (by decide) ?_
      refine e_iadd G (pc := 1443) dL_law_1443 ?_
      refine e_sald G (pc := 1444) dL_law_1444 (fun v337 => ?_)
      refine e_aload_n G (pc := 1445) dL_law_1445 rfl rfl ?_
      refine e_iload_n G (pc := 1446) dL_law_1446 rfl rfl ?_
      refine e_iconst G (pc := 1447) (v := 3) dL_law_1447 (by decide) ?_
      refine e_iadd G (pc := 1448) dL_law_1448 ?_
      refine e_sald G (pc := 1449) dL_law_1449 (fun v338 => ?_)
      refine e_aload_n G (pc := 1450) dL_law_1450 rfl rfl ?_
      refine e_iload_n G (pc := 1451) dL_law_1451 rfl rfl ?_
      refine e_iconst G (pc := 1452) (v := 4) dL_law_1452 (by decide) ?_
      refine e_iadd G (pc := 1453) dL_law_1453 ?_
      refine e_sald G (pc := 1454) dL_law_1454 (fun v339 => ?_)
      refine e_aload_n G (pc := 1455) dL_law_1455 rfl rfl ?_
      refine e_iload_n G (pc := 1456) dL_law_1456 rfl rfl ?_
      refine e_iconst G (pc := 1457) (v := 5) dL_law_1457 (by decide) ?_
      refine e_iadd G (pc := 1458) dL_law_1458 ?_
      refine e_sald G (pc := 1459) dL_law_1459 (fun v340 => ?_)
      refine e_cVi G (pc := 1460) (As := [.int v336, .int v337, .int v338, .int v339, .int v340]) (st := []) cv_L_177 (c_X10_shift w v336 v337 v338 v339 v340 ) sh_0 (Nat.le_of_ble_eq_true rfl) rfl (Nat.le_of_ble_eq_true rfl) dL_law_1460 (fun r341 w342 => ?_)
      refine e_aload_n G (pc := 1463) dL_law_1463 rfl rfl ?_
      refine e_aload_n G (pc := 1464) dL_law_1464 rfl rfl ?_
      refine e_iload_n G (pc := 1465) dL_law_1465 rfl rfl ?_
      refine e_iconst G (pc := 1466) (v := 1) dL_law_1466 (by decide) ?_
      refine e_iadd G (pc := 1467) dL_law_1467 ?_
      refine e_sald G (pc := 1468) dL_law_1468 (fun v343 => ?_)
      refine e_aload_n G (pc := 1469) dL_law_1469 rfl rfl ?_
      refine e_iload_n G (pc := 1470) dL_law_1470 rfl rfl ?_
      refine e_iconst G (pc := 1471) (v := 2) dL_law_1471 (by decide) ?_
      refine e_iadd G (pc := 1472) dL_law_1472 ?_
      refine e_sald G (pc := 1473) dL_law_1473 (fun v344 => ?_)
      refine e_aload_n G (pc := 1474) dL_law_1474 rfl rfl ?_
      refine e_iload_n G (pc := 1475) dL_law_1475 rfl rfl ?_
      refine e_iconst G (pc := 1476) (v := 3) dL_law_1476 (by decide) ?_
      refine e_iadd G (pc := 1477) dL_law_1477 ?_
      refine e_sald G (pc := 1478) dL_law_1478 (fun v345 => ?_)
      refine e_aload_n G (pc := 1479) dL_law_1479 rfl rfl ?_
      refine e_iload_n G (pc := 1480) dL_law_1480 rfl rfl ?_
      refine e_iconst G (pc := 1481) (v := 4) dL_law_1481 (by decide) ?_
      refine e_iadd G (pc := 1482) dL_law_1482 ?_
      refine e_sald G (pc := 1483) dL_law_1483 (fun v346 => ?_)
      refine e_aload_n G (pc := 1484) dL_law_1484 rfl rfl ?_
      refine e_iload_n G (pc := 1485) dL_law_1485 rfl rfl ?_
      refine e_iconst G (pc := 1486) (v := 5) dL_law_1486 (by decide) ?_
      refine e_iadd G (pc := 1487) dL_law_1487 ?_
      refine e_sald G (pc := 1488) dL_law_1488 (fun v347 => ?_)
      refine e_cVi G (pc := 1489) (As := [.int v343, .int v344, .int v345, .int v346, .int v347]) (st := [.int r341]) cv_L_181 (c_X11_shift w342 v343 v344 v345 v346 v347 ) sh_48 (Nat.le_of_ble_eq_true rfl) rfl (Nat.le_of_ble_eq_true rfl) dL_law_1489 (fun r348 w349 => ?_)
      refine e_icmp_eq G (pc := 1492) (tgt := 1553) dL_law_1492 (by decide) ?_ ?_
      · exact t_L_law_B1553 G k18 hk18 w349 l3 
      · refine e_iconst G (pc := 1495) (v := 0) dL_law_1495 (by decide) ?_
        exact e_iret dL_law_1496
    refine e_ite (fun h359 => ?_) (fun h359 => ?_)
    · refine e_tsIn G (pc := 33) (off := 1464) (tgt := 1497) dL_law_33 (by rw [h359]; decide) (by rw [h359]; decide) (by rw [h359]; rfl) (by decide) ?_
      refine e_aload_n G (pc := 1497) dL_law_1497 rfl rfl ?_
      refine e_aload_n G (pc := 1498) dL_law_1498 rfl rfl ?_
      refine e_iload_n G (pc := 1499) dL_law_1499 rfl rfl ?_
      refine e_iconst G (pc := 1500) (v := 1) dL_law_1500 (by decide) ?_
      refine e_iadd G (pc := 1501) dL_law_1501 ?_
      refine e_sald G (pc := 1502) dL_law_1502 (fun v351 => ?_)
      refine e_aload_n G (pc := 1503) dL_law_1503 rfl rfl ?_
      refine e_iload_n G (pc := 1504) dL_law_1504 rfl rfl ?_
      refine e_iconst G (pc := 1505) (v := 2) dL_law_1505 (by decide) ?_
      refine e_iadd G (pc := 1506) dL_law_1506 ?_
      refine e_sald G (pc := 1507) dL_law_1507 (fun v352 => ?_)
      refine e_cVi G (pc := 1508) (As := [.int v351, .int v352]) (st := []) cv_L_182 (c_X10_taken w v351 v352 ) sh_0 (Nat.le_of_ble_eq_true rfl) rfl (Nat.le_of_ble_eq_true rfl) dL_law_1508 (fun r353 w354 => ?_)
      refine e_aload_n G (pc := 1511) dL_law_1511 rfl rfl ?_
      refine e_aload_n G (pc := 1512) dL_law_1512 rfl rfl ?_
      refine e_iload_n G (pc := 1513) dL_law_1513 rfl rfl ?_
      refine e_iconst G (pc := 1514) (v := 1) dL_law_1514 (by decide) ?_
      refine e_iadd G (pc := 1515) dL_law_1515 ?_
      refine e_sald G (pc := 1516) dL_law_1516 (fun v355 => ?_)
      refine e_aload_n G (pc := 1517) dL_law_1517 rfl rfl ?_
      refine e_iload_n G (pc := 1518) dL_law_1518 rfl rfl ?_
      refine e_iconst G (pc := 1519) (v := 2) dL_law_1519 (by decide) ?_
      refine e_iadd G (pc := 1520) dL_law_1520 ?_
      refine e_sald G (pc := 1521) dL_law_1521 (fun v356 => ?_)
      refine e_cVi G (pc := 1522) (As := [.int v355, .int v356]) (st := [.int r353]) cv_L_185 (c_X11_taken w354 v355 v356 ) sh_48 (Nat.le_of_ble_eq_true rfl) rfl (Nat.le_of_ble_eq_true rfl) dL_law_1522 (fun r357 w358 => ?_)
      refine e_icmp_eq G (pc := 1525) (tgt := 1553) dL_law_1525 (by decide) ?_ ?_
      · exact t_L_law_B1553 G k18 hk18 w358 l3 
      · refine e_iconst G (pc := 1528) (v := 0) dL_law_1528 (by decide) ?_
        exact e_iret dL_law_1529
    refine e_ite (fun h366 => ?_) (fun h366 => ?_)
    · refine e_tsIn G (pc := 33) (off := 1497) (tgt := 1530) dL_law_33 (by rw [h366]; decide) (by rw [h366]; decide) (by rw [h366]; rfl) (by decide) ?_
      refine e_aload_n G (pc := 1530) dL_law_1530 rfl rfl ?_
      refine e_aload_n G (pc := 1531) dL_law_1531 rfl rfl ?_
      refine e_iload_n G (pc := 1532) dL_law_1532 rfl rfl ?_
      refine e_iconst G (pc := 1533) (v := 1) dL_law_1533 (by decide) ?_
      refine e_iadd G (pc := 1534) dL_law_1534 ?_
      refine e_sald G (pc := 1535) dL_law_1535 (fun v360 => ?_)
      refine e_cVi G (pc := 1536) (As := [.int v360]) (st := []) cv_L_186 (c_X10_count w v360 ) sh_0 (Nat.le_of_ble_eq_true rfl) rfl (Nat.le_of_ble_eq_true rfl) dL_law_1536 (fun r361 w362 => ?_)
      refine e_aload_n G (pc := 1539) dL_law_1539 rfl rfl ?_
      refine e_aload_n G (pc := 1540) dL_law_1540 rfl rfl ?_
      refine e_iload_n G (pc := 1541) dL_law_1541 rfl rfl ?_
      refine e_iconst G (pc := 1542) (v := 1) dL_law_1542 (by decide) ?_
      refine e_iadd G (pc := 1543) dL_law_1543 ?_
      refine e_sald G (pc := 1544) dL_law_1544 (fun v363 => ?_)
      refine e_cVi G (pc := 1545) (As := [.int v363]) (st := [.int r361]) cv_L_189 (c_X11_count w362 v363 ) sh_48 (Nat.le_of_ble_eq_true rfl) rfl (Nat.le_of_ble_eq_true rfl) dL_law_1545 (fun r364 w365 => ?_)
      refine e_icmp_eq G (pc := 1548) (tgt := 1553) dL_law_1548 (by decide) ?_ ?_
      · exact t_L_law_B1553 G k18 hk18 w365 l3 
      · refine e_iconst G (pc := 1551) (v := 0) dL_law_1551 (by decide) ?_
        exact e_iret dL_law_1552
    have h11 := lv_neT h11 (show (0 : Int32).toInt = 0 by decide)
    have h20 := lv_neT h20 (show (1 : Int32).toInt = 1 by decide)
    have h31 := lv_neT h31 (show (2 : Int32).toInt = 2 by decide)
    have h42 := lv_neT h42 (show (3 : Int32).toInt = 3 by decide)
    have h51 := lv_neT h51 (show (4 : Int32).toInt = 4 by decide)
    have h58 := lv_neT h58 (show (5 : Int32).toInt = 5 by decide)
    have h63 := lv_neT h63 (show (6 : Int32).toInt = 6 by decide)
    have h72 := lv_neT h72 (show (7 : Int32).toInt = 7 by decide)
    have h81 := lv_neT h81 (show (8 : Int32).toInt = 8 by decide)
    have h90 := lv_neT h90 (show (9 : Int32).toInt = 9 by decide)
    have h99 := lv_neT h99 (show (10 : Int32).toInt = 10 by decide)
    have h106 := lv_neT h106 (show (11 : Int32).toInt = 11 by decide)
    have h113 := lv_neT h113 (show (12 : Int32).toInt = 12 by decide)
    have h122 := lv_neT h122 (show (13 : Int32).toInt = 13 by decide)
    have h131 := lv_neT h131 (show (14 : Int32).toInt = 14 by decide)
    have h140 := lv_neT h140 (show (15 : Int32).toInt = 15 by decide)
    have h151 := lv_neT h151 (show (16 : Int32).toInt = 16 by decide)
    have h162 := lv_neT h162 (show (17 : Int32).toInt = 17 by decide)
    have h171 := lv_neT h171 (show (18 : Int32).toInt = 18 by decide)
    have h180 := lv_neT h180 (show (19 : Int32).toInt = 19 by decide)
    have h189 := lv_neT h189 (show (20 : Int32).toInt = 20 by decide)
    have h200 := lv_neT h200 (show (21 : Int32).toInt = 21 by decide)
    have h211 := lv_neT h211 (show (22 : Int32).toInt = 22 by decide)
    have h216 := lv_neT h216 (show (23 : Int32).toInt = 23 by decide)
    have h225 := lv_neT h225 (show (24 : Int32).toInt = 24 by decide)
    have h232 := lv_neT h232 (show (25 : Int32).toInt = 25 by decide)
    have h241 := lv_neT h241 (show (26 : Int32).toInt = 26 by decide)
    have h248 := lv_neT h248 (show (27 : Int32).toInt = 27 by decide)
    have h253 := lv_neT h253 (show (28 : Int32).toInt = 28 by decide)
    have h258 := lv_neT h258 (show (29 : Int32).toInt = 29 by decide)
    have h263 := lv_neT h263 (show (30 : Int32).toInt = 30 by decide)
    have h268 := lv_neT h268 (show (31 : Int32).toInt = 31 by decide)
    have h275 := lv_neT h275 (show (32 : Int32).toInt = 32 by decide)
    have h286 := lv_neT h286 (show (33 : Int32).toInt = 33 by decide)
    have h293 := lv_neT h293 (show (34 : Int32).toInt = 34 by decide)
    have h302 := lv_neT h302 (show (35 : Int32).toInt = 35 by decide)
    have h313 := lv_neT h313 (show (36 : Int32).toInt = 36 by decide)
    have h326 := lv_neT h326 (show (37 : Int32).toInt = 37 by decide)
    have h335 := lv_neT h335 (show (38 : Int32).toInt = 38 by decide)
    have h350 := lv_neT h350 (show (39 : Int32).toInt = 39 by decide)
    have h359 := lv_neT h359 (show (40 : Int32).toInt = 40 by decide)
    have h366 := lv_neT h366 (show (41 : Int32).toInt = 41 by decide)
    refine e_tsOut G (pc := 33) (tgt := 1553) dL_law_33 (by omega) (by decide) ?_
    exact t_L_law_B1553 G k18 hk18 w l3 
set_option maxRecDepth 100000 in
set_option maxHeartbeats 4000000 in
theorem t_L_law_R18 {E : qE} {Γ : qC} (G : q_Ok E Γ RL cL_law 4 (408)) : ∀ (fuel : Nat) (w : qW) (l3 : Int32) , q_Ev E Γ 4 (q_Fi E Γ cL_law) 18 [some (.ref 106), some (.ref 0), some (.ref 48), some (.int l3)] [] w (f_L_law_R18 (q_xs E) (q_Lz E) fuel w l3) := by
  intro fuel
  induction fuel with
  | zero => intros; exact e_none
  | succ fuel ih =>
    intro w l3 
    exact t_L_law_B18 G _ ih w l3 
