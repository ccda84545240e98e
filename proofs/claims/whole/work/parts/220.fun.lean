def BlazedPathLaw_law_999_n0_1039 (L : Nat) (xs : Nat → Int)  (k18 : Int → am_M → Option (Int × am_M)) (x3 : Int) (M : am_M) : Option (Int × am_M) := (k18 ((x3) + (6)) M)
def BlazedPathLaw_law_999_n0_18 (L : Nat) (xs : Nat → Int)   : Nat → Int → am_M → Option (Int × am_M)
  | 0, _, _ => none
  | n + 1, x3, M => c_gt (x3) (((L : Int)) - (6))
       (some (1, M))
       (ck (0 ≤ (x3) ∧ (x3) < (L : Int)) (tw (xs (x3).toNat) fun v1 => ck (am_R (b_and (v1) (31))) ((if (b_and (v1) (31)) = (0) then
       (ck (0 ≤ ((x3) + (1)) ∧ ((x3) + (1)) < (L : Int)) (tw (xs ((x3) + (1)).toNat) fun v2 => ck (0 ≤ ((x3) + (2)) ∧ ((x3) + (2)) < (L : Int)) (tw (xs ((x3) + (2)).toNat) fun v3 => ck (0 ≤ ((x3) + (3)) ∧ ((x3) + (3)) < (L : Int)) (tw (xs ((x3) + (3)).toNat) fun v4 => ck (0 ≤ ((x3) + (4)) ∧ ((x3) + (4)) < (L : Int)) (tw (xs ((x3) + (4)).toNat) fun v5 => ck (0 ≤ ((x3) + (5)) ∧ ((x3) + (5)) < (L : Int)) (tw (xs ((x3) + (5)).toNat) fun v6 => oc (P_feed (v2) (v3) (v4) (v5) (v6) M) fun v7 M8 => ck (0 ≤ ((x3) + (1)) ∧ ((x3) + (1)) < (L : Int)) (tw (xs ((x3) + (1)).toNat) fun v9 => ck (0 ≤ ((x3) + (2)) ∧ ((x3) + (2)) < (L : Int)) (tw (xs ((x3) + (2)).toNat) fun v10 => ck (0 ≤ ((x3) + (3)) ∧ ((x3) + (3)) < (L : Int)) (tw (xs ((x3) + (3)).toNat) fun v11 => ck (0 ≤ ((x3) + (4)) ∧ ((x3) + (4)) < (L : Int)) (tw (xs ((x3) + (4)).toNat) fun v12 => ck (0 ≤ ((x3) + (5)) ∧ ((x3) + (5)) < (L : Int)) (tw (xs ((x3) + (5)).toNat) fun v13 => oc (R_feed (v9) (v10) (v11) (v12) (v13) M8) fun v14 M15 => c_eq (v7) (v14)
       (BlazedPathLaw_law_999_n0_1039 L xs  (BlazedPathLaw_law_999_n0_18 L xs   n) (x3) M15)
       (some (0, M15))))))))))))) else
       (if (b_and (v1) (31)) = (1) then
       (ck (0 ≤ ((x3) + (1)) ∧ ((x3) + (1)) < (L : Int)) (tw (xs ((x3) + (1)).toNat) fun v16 => oc (P_forest (v16) M) fun v17 M18 => ck (0 ≤ ((x3) + (1)) ∧ ((x3) + (1)) < (L : Int)) (tw (xs ((x3) + (1)).toNat) fun v19 => oc (R_forest (v19) M18) fun v20 M21 => c_eq (v17) (v20)
       (BlazedPathLaw_law_999_n0_1039 L xs  (BlazedPathLaw_law_999_n0_18 L xs   n) (x3) M21)
       (some (0, M21))))) else
       (if (b_and (v1) (31)) = (2) then
       (ck (0 ≤ ((x3) + (1)) ∧ ((x3) + (1)) < (L : Int)) (tw (xs ((x3) + (1)).toNat) fun v22 => oc (P_law (v22) M) fun v23 M24 => ck (0 ≤ ((x3) + (1)) ∧ ((x3) + (1)) < (L : Int)) (tw (xs ((x3) + (1)).toNat) fun v25 => oc (R_lawm (v25) M24) fun v26 M27 => c_eq (v23) (v26)
       (BlazedPathLaw_law_999_n0_1039 L xs  (BlazedPathLaw_law_999_n0_18 L xs   n) (x3) M27)
       (some (0, M27))))) else
       (if (b_and (v1) (31)) = (3) then
       (ck (0 ≤ ((x3) + (1)) ∧ ((x3) + (1)) < (L : Int)) (tw (xs ((x3) + (1)).toNat) fun v28 => oc (P_start (v28) M) fun v29 M30 => ck (0 ≤ ((x3) + (1)) ∧ ((x3) + (1)) < (L : Int)) (tw (xs ((x3) + (1)).toNat) fun v31 => oc (R_start (v31) M30) fun v32 M33 => c_eq (v29) (v32)
       (BlazedPathLaw_law_999_n0_1039 L xs  (BlazedPathLaw_law_999_n0_18 L xs   n) (x3) M33)
       (some (0, M33))))) else
       (if (b_and (v1) (31)) = (4) then
       (ck (0 ≤ ((x3) + (1)) ∧ ((x3) + (1)) < (L : Int)) (tw (xs ((x3) + (1)).toNat) fun v34 => ck (0 ≤ ((x3) + (2)) ∧ ((x3) + (2)) < (L : Int)) (tw (xs ((x3) + (2)).toNat) fun v35 => oc (P_person (v34) (v35) M) fun v36 M37 => ck (0 ≤ ((x3) + (1)) ∧ ((x3) + (1)) < (L : Int)) (tw (xs ((x3) + (1)).toNat) fun v38 => ck (0 ≤ ((x3) + (2)) ∧ ((x3) + (2)) < (L : Int)) (tw (xs ((x3) + (2)).toNat) fun v39 => oc (R_person (v38) (v39) M37) fun v40 M41 => c_eq (v36) (v40)
       (BlazedPathLaw_law_999_n0_1039 L xs  (BlazedPathLaw_law_999_n0_18 L xs   n) (x3) M41)
       (some (0, M41))))))) else
       (if (b_and (v1) (31)) = (5) then
       (ck (0 ≤ ((x3) + (1)) ∧ ((x3) + (1)) < (L : Int)) (tw (xs ((x3) + (1)).toNat) fun v42 => oc (P_ahead (v42) M) fun v43 M44 => ck (0 ≤ ((x3) + (1)) ∧ ((x3) + (1)) < (L : Int)) (tw (xs ((x3) + (1)).toNat) fun v45 => oc (R_ahead (v45) M44) fun v46 M47 => c_eq (v43) (v46)
       (BlazedPathLaw_law_999_n0_1039 L xs  (BlazedPathLaw_law_999_n0_18 L xs   n) (x3) M47)
       (some (0, M47))))) else
       (if (b_and (v1) (31)) = (6) then
       (ck (0 ≤ ((x3) + (1)) ∧ ((x3) + (1)) < (L : Int)) (tw (xs ((x3) + (1)).toNat) fun v48 => oc (P_width (v48) M) fun v49 M50 => ck (0 ≤ ((x3) + (1)) ∧ ((x3) + (1)) < (L : Int)) (tw (xs ((x3) + (1)).toNat) fun v51 => oc (R_width (v51) M50) fun v52 M53 => c_eq (v49) (v52)
       (BlazedPathLaw_law_999_n0_1039 L xs  (BlazedPathLaw_law_999_n0_18 L xs   n) (x3) M53)
       (some (0, M53))))) else
       (if (b_and (v1) (31)) = (7) then
       (ck (0 ≤ ((x3) + (1)) ∧ ((x3) + (1)) < (L : Int)) (tw (xs ((x3) + (1)).toNat) fun v54 => oc (P_light (v54) M) fun v55 M56 => ck (0 ≤ ((x3) + (1)) ∧ ((x3) + (1)) < (L : Int)) (tw (xs ((x3) + (1)).toNat) fun v57 => oc (R_light (v57) M56) fun v58 M59 => c_eq (v55) (v58)
       (BlazedPathLaw_law_999_n0_1039 L xs  (BlazedPathLaw_law_999_n0_18 L xs   n) (x3) M59)
       (some (0, M59))))) else
       (if (b_and (v1) (31)) = (8) then
       (ck (0 ≤ ((x3) + (1)) ∧ ((x3) + (1)) < (L : Int)) (tw (xs ((x3) + (1)).toNat) fun v60 => oc (P_orders (v60) M) fun v61 M62 => ck (0 ≤ ((x3) + (1)) ∧ ((x3) + (1)) < (L : Int)) (tw (xs ((x3) + (1)).toNat) fun v63 => oc (R_orders (v63) M62) fun v64 M65 => c_eq (v61) (v64)
       (BlazedPathLaw_law_999_n0_1039 L xs  (BlazedPathLaw_law_999_n0_18 L xs   n) (x3) M65)
       (some (0, M65))))) else
       (if (b_and (v1) (31)) = (9) then
       (ck (0 ≤ ((x3) + (1)) ∧ ((x3) + (1)) < (L : Int)) (tw (xs ((x3) + (1)).toNat) fun v66 => ck (0 ≤ ((x3) + (2)) ∧ ((x3) + (2)) < (L : Int)) (tw (xs ((x3) + (2)).toNat) fun v67 => oc (P_tried (v66) (v67) M) fun v68 M69 => ck (0 ≤ ((x3) + (1)) ∧ ((x3) + (1)) < (L : Int)) (tw (xs ((x3) + (1)).toNat) fun v70 => ck (0 ≤ ((x3) + (2)) ∧ ((x3) + (2)) < (L : Int)) (tw (xs ((x3) + (2)).toNat) fun v71 => oc (R_tried (v70) (v71) M69) fun v72 M73 => c_eq (v68) (v72)
       (BlazedPathLaw_law_999_n0_1039 L xs  (BlazedPathLaw_law_999_n0_18 L xs   n) (x3) M73)
       (some (0, M73))))))) else
       (if (b_and (v1) (31)) = (10) then
       (ck (0 ≤ ((x3) + (1)) ∧ ((x3) + (1)) < (L : Int)) (tw (xs ((x3) + (1)).toNat) fun v74 => oc (P_days (v74) M) fun v75 M76 => ck (0 ≤ ((x3) + (1)) ∧ ((x3) + (1)) < (L : Int)) (tw (xs ((x3) + (1)).toNat) fun v77 => oc (R_days (v77) M76) fun v78 M79 => c_eq (v75) (v78)
       (BlazedPathLaw_law_999_n0_1039 L xs  (BlazedPathLaw_law_999_n0_18 L xs   n) (x3) M79)
       (some (0, M79))))) else
       (if (b_and (v1) (31)) = (11) then
       (ck (0 ≤ ((x3) + (1)) ∧ ((x3) + (1)) < (L : Int)) (tw (xs ((x3) + (1)).toNat) fun v80 => oc (P_back (v80) M) fun v81 M82 => ck (0 ≤ ((x3) + (1)) ∧ ((x3) + (1)) < (L : Int)) (tw (xs ((x3) + (1)).toNat) fun v83 => oc (R_back (v83) M82) fun v84 M85 => c_eq (v81) (v84)
       (BlazedPathLaw_law_999_n0_1039 L xs  (BlazedPathLaw_law_999_n0_18 L xs   n) (x3) M85)
       (some (0, M85))))) else
       (if (b_and (v1) (31)) = (12) then
       (ck (0 ≤ ((x3) + (1)) ∧ ((x3) + (1)) < (L : Int)) (tw (xs ((x3) + (1)).toNat) fun v86 => oc (P_safe (v86) M) fun v87 M88 => ck (0 ≤ ((x3) + (1)) ∧ ((x3) + (1)) < (L : Int)) (tw (xs ((x3) + (1)).toNat) fun v89 => oc (R_safe (v89) M88) fun v90 M91 => ck (am_R6 (v87) ∧ am_R6 (v90)) (tw (if (v87) > (v90) then 1 else if (v87) = (v90) then 0 else -1) fun v92 => c_eq (v92) (0)
       (BlazedPathLaw_law_999_n0_1039 L xs  (BlazedPathLaw_law_999_n0_18 L xs   n) (x3) M91)
       (some (0, M91)))))) else
       (if (b_and (v1) (31)) = (13) then
       (oc (P_home  M) fun v93 M94 => oc (R_home  M94) fun v95 M96 => c_eq (v93) (v95)
       (BlazedPathLaw_law_999_n0_1039 L xs  (BlazedPathLaw_law_999_n0_18 L xs   n) (x3) M96)
       (some (0, M96))) else
       (if (b_and (v1) (31)) = (14) then
       (ck (0 ≤ ((x3) + (1)) ∧ ((x3) + (1)) < (L : Int)) (tw (xs ((x3) + (1)).toNat) fun v97 => ck (0 ≤ ((x3) + (2)) ∧ ((x3) + (2)) < (L : Int)) (tw (xs ((x3) + (2)).toNat) fun v98 => ob (P_path (v97) (v98) M) fun v99 => ck (0 ≤ ((x3) + (1)) ∧ ((x3) + (1)) < (L : Int)) (tw (xs ((x3) + (1)).toNat) fun v100 => ck (0 ≤ ((x3) + (2)) ∧ ((x3) + (2)) < (L : Int)) (tw (xs ((x3) + (2)).toNat) fun v101 => ob (R_path (v100) (v101) M) fun v102 => c_eq (v99) (v102)
       (BlazedPathLaw_law_999_n0_1039 L xs  (BlazedPathLaw_law_999_n0_18 L xs   n) (x3) M)
       (some (0, M))))))) else
       (if (b_and (v1) (31)) = (15) then
       (ck (0 ≤ ((x3) + (1)) ∧ ((x3) + (1)) < (L : Int)) (tw (xs ((x3) + (1)).toNat) fun v103 => ck (0 ≤ ((x3) + (2)) ∧ ((x3) + (2)) < (L : Int)) (tw (xs ((x3) + (2)).toNat) fun v104 => oc (P_turn (v103) (v104) M) fun v105 M106 => ck (0 ≤ ((x3) + (1)) ∧ ((x3) + (1)) < (L : Int)) (tw (xs ((x3) + (1)).toNat) fun v107 => ck (0 ≤ ((x3) + (2)) ∧ ((x3) + (2)) < (L : Int)) (tw (xs ((x3) + (2)).toNat) fun v108 => oc (R_turn (v107) (v108) M106) fun v109 M110 => c_eq (v105) (v109)
       (BlazedPathLaw_law_999_n0_1039 L xs  (BlazedPathLaw_law_999_n0_18 L xs   n) (x3) M110)
       (some (0, M110))))))) else
       (if (b_and (v1) (31)) = (16) then
       (ck (0 ≤ ((x3) + (1)) ∧ ((x3) + (1)) < (L : Int)) (tw (xs ((x3) + (1)).toNat) fun v111 => ck (0 ≤ ((x3) + (2)) ∧ ((x3) + (2)) < (L : Int)) (tw (xs ((x3) + (2)).toNat) fun v112 => ck (0 ≤ ((x3) + (3)) ∧ ((x3) + (3)) < (L : Int)) (tw (xs ((x3) + (3)).toNat) fun v113 => oc (P_soonest (v111) (v112) (v113) M) fun v114 M115 => ck (0 ≤ ((x3) + (1)) ∧ ((x3) + (1)) < (L : Int)) (tw (xs ((x3) + (1)).toNat) fun v116 => ck (0 ≤ ((x3) + (2)) ∧ ((x3) + (2)) < (L : Int)) (tw (xs ((x3) + (2)).toNat) fun v117 => ck (0 ≤ ((x3) + (3)) ∧ ((x3) + (3)) < (L : Int)) (tw (xs ((x3) + (3)).toNat) fun v118 => oc (R_soonest (v116) (v117) (v118) M115) fun v119 M120 => c_eq (v114) (v119)
       (BlazedPathLaw_law_999_n0_1039 L xs  (BlazedPathLaw_law_999_n0_18 L xs   n) (x3) M120)
       (some (0, M120))))))))) else
       (if (b_and (v1) (31)) = (17) then
       (ck (0 ≤ ((x3) + (1)) ∧ ((x3) + (1)) < (L : Int)) (tw (xs ((x3) + (1)).toNat) fun v121 => oc (P_camp (v121) M) fun v122 M123 => ck (0 ≤ ((x3) + (1)) ∧ ((x3) + (1)) < (L : Int)) (tw (xs ((x3) + (1)).toNat) fun v124 => oc (R_camp (v124) M123) fun v125 M126 => c_eq (v122) (v125)
       (BlazedPathLaw_law_999_n0_1039 L xs  (BlazedPathLaw_law_999_n0_18 L xs   n) (x3) M126)
       (some (0, M126))))) else
       (if (b_and (v1) (31)) = (18) then
       (ck (0 ≤ ((x3) + (1)) ∧ ((x3) + (1)) < (L : Int)) (tw (xs ((x3) + (1)).toNat) fun v127 => ck (0 ≤ ((x3) + (2)) ∧ ((x3) + (2)) < (L : Int)) (tw (xs ((x3) + (2)).toNat) fun v128 => ck (0 ≤ ((x3) + (3)) ∧ ((x3) + (3)) < (L : Int)) (tw (xs ((x3) + (3)).toNat) fun v129 => oc (P_byTurns (v127) (v128) (v129) M) fun v130 M131 => ck (0 ≤ ((x3) + (1)) ∧ ((x3) + (1)) < (L : Int)) (tw (xs ((x3) + (1)).toNat) fun v132 => ck (0 ≤ ((x3) + (2)) ∧ ((x3) + (2)) < (L : Int)) (tw (xs ((x3) + (2)).toNat) fun v133 => ck (0 ≤ ((x3) + (3)) ∧ ((x3) + (3)) < (L : Int)) (tw (xs ((x3) + (3)).toNat) fun v134 => oc (R_byTurns (v132) (v133) (v134) M131) fun v135 M136 => c_eq (v130) (v135)
       (BlazedPathLaw_law_999_n0_1039 L xs  (BlazedPathLaw_law_999_n0_18 L xs   n) (x3) M136)
       (some (0, M136))))))))) else
       (if (b_and (v1) (31)) = (19) then
       (ck (0 ≤ ((x3) + (1)) ∧ ((x3) + (1)) < (L : Int)) (tw (xs ((x3) + (1)).toNat) fun v137 => ck (0 ≤ ((x3) + (2)) ∧ ((x3) + (2)) < (L : Int)) (tw (xs ((x3) + (2)).toNat) fun v138 => ck (0 ≤ ((x3) + (3)) ∧ ((x3) + (3)) < (L : Int)) (tw (xs ((x3) + (3)).toNat) fun v139 => ck (0 ≤ ((x3) + (4)) ∧ ((x3) + (4)) < (L : Int)) (tw (xs ((x3) + (4)).toNat) fun v140 => oc (P_planned (v137) (v138) (v139) (v140) M) fun v141 M142 => ck (0 ≤ ((x3) + (1)) ∧ ((x3) + (1)) < (L : Int)) (tw (xs ((x3) + (1)).toNat) fun v143 => ck (0 ≤ ((x3) + (2)) ∧ ((x3) + (2)) < (L : Int)) (tw (xs ((x3) + (2)).toNat) fun v144 => ck (0 ≤ ((x3) + (3)) ∧ ((x3) + (3)) < (L : Int)) (tw (xs ((x3) + (3)).toNat) fun v145 => ck (0 ≤ ((x3) + (4)) ∧ ((x3) + (4)) < (L : Int)) (tw (xs ((x3) + (4)).toNat) fun v146 => oc (R_planned (v143) (v144) (v145) (v146) M142) fun v147 M148 => c_eq (v141) (v147)
       (BlazedPathLaw_law_999_n0_1039 L xs  (BlazedPathLaw_law_999_n0_18 L xs   n) (x3) M148)
       (some (0, M148))))))))))) else
       (if (b_and (v1) (31)) = (20) then
       (ck (0 ≤ ((x3) + (1)) ∧ ((x3) + (1)) < (L : Int)) (tw (xs ((x3) + (1)).toNat) fun v149 => ck (0 ≤ ((x3) + (2)) ∧ ((x3) + (2)) < (L : Int)) (tw (xs ((x3) + (2)).toNat) fun v150 => ck (0 ≤ ((x3) + (3)) ∧ ((x3) + (3)) < (L : Int)) (tw (xs ((x3) + (3)).toNat) fun v151 => oc (P_paces (v149) (v150) (v151) M) fun v152 M153 => ck (0 ≤ ((x3) + (1)) ∧ ((x3) + (1)) < (L : Int)) (tw (xs ((x3) + (1)).toNat) fun v154 => ck (0 ≤ ((x3) + (2)) ∧ ((x3) + (2)) < (L : Int)) (tw (xs ((x3) + (2)).toNat) fun v155 => ck (0 ≤ ((x3) + (3)) ∧ ((x3) + (3)) < (L : Int)) (tw (xs ((x3) + (3)).toNat) fun v156 => oc (R_paces (v154) (v155) (v156) M153) fun v157 M158 => c_eq (v152) (v157)
       (BlazedPathLaw_law_999_n0_1039 L xs  (BlazedPathLaw_law_999_n0_18 L xs   n) (x3) M158)
       (some (0, M158))))))))) else
       (if (b_and (v1) (31)) = (21) then
       (ck (0 ≤ ((x3) + (1)) ∧ ((x3) + (1)) < (L : Int)) (tw (xs ((x3) + (1)).toNat) fun v159 => ck (0 ≤ ((x3) + (2)) ∧ ((x3) + (2)) < (L : Int)) (tw (xs ((x3) + (2)).toNat) fun v160 => oc (P_seek (v159) (v160) M) fun v161 M162 => ck (0 ≤ ((x3) + (1)) ∧ ((x3) + (1)) < (L : Int)) (tw (xs ((x3) + (1)).toNat) fun v163 => ck (0 ≤ ((x3) + (2)) ∧ ((x3) + (2)) < (L : Int)) (tw (xs ((x3) + (2)).toNat) fun v164 => oc (R_seek (v163) (v164) M162) fun v165 M166 => c_eq (v161) (v165)
       (BlazedPathLaw_law_999_n0_1039 L xs  (BlazedPathLaw_law_999_n0_18 L xs   n) (x3) M166)
       (some (0, M166))))))) else
       (if (b_and (v1) (31)) = (22) then
       (ck (0 ≤ ((x3) + (1)) ∧ ((x3) + (1)) < (L : Int)) (tw (xs ((x3) + (1)).toNat) fun v167 => ck (0 ≤ ((x3) + (2)) ∧ ((x3) + (2)) < (L : Int)) (tw (xs ((x3) + (2)).toNat) fun v168 => oc (P_blazes (v167) (v168) M) fun v169 M170 => ck (0 ≤ ((x3) + (1)) ∧ ((x3) + (1)) < (L : Int)) (tw (xs ((x3) + (1)).toNat) fun v171 => ck (0 ≤ ((x3) + (2)) ∧ ((x3) + (2)) < (L : Int)) (tw (xs ((x3) + (2)).toNat) fun v172 => oc (R_blazes (v171) (v172) M170) fun v173 M174 => c_eq (v169) (v173)
       (BlazedPathLaw_law_999_n0_1039 L xs  (BlazedPathLaw_law_999_n0_18 L xs   n) (x3) M174)
       (some (0, M174))))))) else
       (if (b_and (v1) (31)) = (23) then
       (ck (0 ≤ ((x3) + (1)) ∧ ((x3) + (1)) < (L : Int)) (tw (xs ((x3) + (1)).toNat) fun v175 => ck (0 ≤ ((x3) + (2)) ∧ ((x3) + (2)) < (L : Int)) (tw (xs ((x3) + (2)).toNat) fun v176 => oc (P_sights (v175) (v176) M) fun v177 M178 => ck (0 ≤ ((x3) + (1)) ∧ ((x3) + (1)) < (L : Int)) (tw (xs ((x3) + (1)).toNat) fun v179 => ck (0 ≤ ((x3) + (2)) ∧ ((x3) + (2)) < (L : Int)) (tw (xs ((x3) + (2)).toNat) fun v180 => oc (R_sights (v179) (v180) M178) fun v181 M182 => c_eq (v177) (v181)
       (BlazedPathLaw_law_999_n0_1039 L xs  (BlazedPathLaw_law_999_n0_18 L xs   n) (x3) M182)
       (some (0, M182))))))) else
       (if (b_and (v1) (31)) = (24) then
       (ck (0 ≤ ((x3) + (1)) ∧ ((x3) + (1)) < (L : Int)) (tw (xs ((x3) + (1)).toNat) fun v183 => ck (0 ≤ ((x3) + (2)) ∧ ((x3) + (2)) < (L : Int)) (tw (xs ((x3) + (2)).toNat) fun v184 => ob (P_personIs (v183) (v184) M) fun v185 => ck (0 ≤ ((x3) + (1)) ∧ ((x3) + (1)) < (L : Int)) (tw (xs ((x3) + (1)).toNat) fun v186 => ck (0 ≤ ((x3) + (2)) ∧ ((x3) + (2)) < (L : Int)) (tw (xs ((x3) + (2)).toNat) fun v187 => ob (R_personIs (v186) (v187) M) fun v188 => c_eq (v185) (v188)
       (BlazedPathLaw_law_999_n0_1039 L xs  (BlazedPathLaw_law_999_n0_18 L xs   n) (x3) M)
       (some (0, M))))))) else
       (if (b_and (v1) (31)) = (25) then
       (ck (0 ≤ ((x3) + (1)) ∧ ((x3) + (1)) < (L : Int)) (tw (xs ((x3) + (1)).toNat) fun v189 => oc (P_seed (v189) M) fun v190 M191 => ck (0 ≤ ((x3) + (1)) ∧ ((x3) + (1)) < (L : Int)) (tw (xs ((x3) + (1)).toNat) fun v192 => oc (R_seed (v192) M191) fun v193 M194 => c_eq (v190) (v193)
       (BlazedPathLaw_law_999_n0_1039 L xs  (BlazedPathLaw_law_999_n0_18 L xs   n) (x3) M194)
       (some (0, M194))))) else
       (if (b_and (v1) (31)) = (26) then
       (oc (P_keep  M) fun v195 M196 => oc (R_keep  M196) fun v197 M198 => c_eq (v195) (v197)
       (BlazedPathLaw_law_999_n0_1039 L xs  (BlazedPathLaw_law_999_n0_18 L xs   n) (x3) M198)
       (some (0, M198))) else
       (if (b_and (v1) (31)) = (27) then
       (oc (P_undo  M) fun v199 M200 => oc (R_undo  M200) fun v201 M202 => c_eq (v199) (v201)
       (BlazedPathLaw_law_999_n0_1039 L xs  (BlazedPathLaw_law_999_n0_18 L xs   n) (x3) M202)
       (some (0, M202))) else
       (if (b_and (v1) (31)) = (28) then
       (ck (0 ≤ ((x3) + (1)) ∧ ((x3) + (1)) < (L : Int)) (tw (xs ((x3) + (1)).toNat) fun v203 => oc (P_check (v203) M) fun v204 M205 => ck (0 ≤ ((x3) + (1)) ∧ ((x3) + (1)) < (L : Int)) (tw (xs ((x3) + (1)).toNat) fun v206 => oc (R_check (v206) M205) fun v207 M208 => c_eq (v204) (v207)
       (BlazedPathLaw_law_999_n0_1039 L xs  (BlazedPathLaw_law_999_n0_18 L xs   n) (x3) M208)
       (some (0, M208))))) else
       (if (b_and (v1) (31)) = (29) then
       (ck (0 ≤ ((x3) + (1)) ∧ ((x3) + (1)) < (L : Int)) (tw (xs ((x3) + (1)).toNat) fun v209 => ob (P_count (v209) M) fun v210 => ck (0 ≤ ((x3) + (1)) ∧ ((x3) + (1)) < (L : Int)) (tw (xs ((x3) + (1)).toNat) fun v211 => ob (R_count (v211) M) fun v212 => c_eq (v210) (v212)
       (BlazedPathLaw_law_999_n0_1039 L xs  (BlazedPathLaw_law_999_n0_18 L xs   n) (x3) M)
       (some (0, M))))) else
       (BlazedPathLaw_law_999_n0_1039 L xs  (BlazedPathLaw_law_999_n0_18 L xs   n) (x3) M))))))))))))))))))))))))))))))))))
def BlazedPathLaw_law_999_n0 (L : Nat) (xs : Nat → Int)    (M : am_M) : Option (Int × am_M) := nw M 0 fun M1 => ob (P_new_n1  M1) fun M2 => nw M2 73 fun M3 => ob (R_new_n74  M3) fun M4 => (BlazedPathLaw_law_999_n0_18 L xs   am_big (0) M4)
theorem BlazedPathLaw_law_999_n0_1039_t {L : Nat} {xs : Nat → Int} {d : Nat} (hd : 88 ≤ d)   (k18 : Int → am_M → Option (Int × am_M)) (hk18 : ∀ (x3 : Int) (M : am_M) (r : Int × am_M), k18 x3 M = some r → am_Ev L xs d me_313 18 [(0, .inr (.inr (some 999))), (1, .inr (.inr (some 0))), (2, .inr (.inr (some 73))), (3, .inl (x3))] [] 126 138 M (some (.inl r.1), 126, 138, r.2)) (x3 : Int) (M : am_M) (r : Int × am_M) (h : BlazedPathLaw_law_999_n0_1039 L xs  k18 x3 M = some r) : am_Ev L xs d me_313 1039 [(0, .inr (.inr (some 999))), (1, .inr (.inr (some 0))), (2, .inr (.inr (some 73))), (3, .inl (x3))] [] 126 138 M (some (.inl r.1), 126, 138, r.2) := by
  refine ev_k (pc' := 18) (ls' := [(0, .inr (.inr (some 999))), (1, .inr (.inr (some 0))), (2, .inr (.inr (some 73))), (3, .inl ((x3) + (6)))]) (st' := []) (nc' := 126) (np' := 138) (M' := M) 2 rfl ?_
  exact hk18 ((x3) + (6)) M r h
theorem BlazedPathLaw_law_999_n0_18_t {L : Nat} {xs : Nat → Int} {d : Nat} (hd : 88 ≤ d)     : ∀ (n : Nat) (x3 : Int) (M : am_M) (r : Int × am_M), BlazedPathLaw_law_999_n0_18 L xs   n x3 M = some r → am_Ev L xs d me_313 18 [(0, .inr (.inr (some 999))), (1, .inr (.inr (some 0))), (2, .inr (.inr (some 73))), (3, .inl (x3))] [] 126 138 M (some (.inl r.1), 126, 138, r.2)
  | 0, _, M, r, h => by cases h
  | n + 1, x3, M, r, h => by
    have ih := BlazedPathLaw_law_999_n0_18_t (L := L) (xs := xs) hd     n
    refine ev_k (pc' := 24) (ls' := [(0, .inr (.inr (some 999))), (1, .inr (.inr (some 0))), (2, .inr (.inr (some 73))), (3, .inl (x3))]) (st' := [.inl (((L : Int)) - (6)), .inl (x3)]) (nc' := 126) (np' := 138) (M' := M) 5 rfl ?_
    obtain ⟨hR, ⟨hc, h⟩ | ⟨hc, h⟩⟩ := c_gt_i h
    · refine ev_icmp 1045 rfl hR.1 hR.2 (by decide) (fun _ => ?_) (fun q => absurd hc q)
      refine ev_k (pc' := 1046) (ls' := [(0, .inr (.inr (some 999))), (1, .inr (.inr (some 0))), (2, .inr (.inr (some 73))), (3, .inl (x3))]) (st' := [.inl (1)]) (nc' := 126) (np' := 138) (M' := M) 1 rfl ?_
      cases h
      exact ev_ret rfl
    · refine ev_icmp 1045 rfl hR.1 hR.2 (by decide) (fun q => absurd q hc) (fun _ => ?_)
      refine ev_k (pc' := 29) (ls' := [(0, .inr (.inr (some 999))), (1, .inr (.inr (some 0))), (2, .inr (.inr (some 73))), (3, .inl (x3))]) (st' := [.inl (x3), .inr (.inr (some 999))]) (nc' := 126) (np' := 138) (M' := M) 2 rfl ?_
      obtain ⟨hc, h⟩ := ck_i h
      obtain ⟨v1, ev, h⟩ := tw_i h
      refine ev_sld rfl rfl hc ev ?_
      refine ev_k (pc' := 33) (ls' := [(0, .inr (.inr (some 999))), (1, .inr (.inr (some 0))), (2, .inr (.inr (some 73))), (3, .inl (x3))]) (st' := [.inl (b_and (v1) (31))]) (nc' := 126) (np' := 138) (M' := M) 2 rfl ?_
      obtain ⟨hR, h⟩ := ck_i h
      rcases if_i h with ⟨hq, h⟩ | ⟨hq0, h⟩
      · refine ev_tsw 168 rfl hR (135) (Or.inr ⟨by rw [hq]; decide, by rw [hq]; rfl⟩) (by decide) ?_
        refine ev_k (pc' := 173) (ls' := [(0, .inr (.inr (some 999))), (1, .inr (.inr (some 0))), (2, .inr (.inr (some 73))), (3, .inl (x3))]) (st' := [.inl ((x3) + (1)), .inr (.inr (some 999)), .inr (.inr (some 0))]) (nc' := 126) (np' := 138) (M' := M) 5 rfl ?_
        obtain ⟨hc, h⟩ := ck_i h
        obtain ⟨v2, ev, h⟩ := tw_i h
        refine ev_sld rfl rfl hc ev ?_
        refine ev_k (pc' := 178) (ls' := [(0, .inr (.inr (some 999))), (1, .inr (.inr (some 0))), (2, .inr (.inr (some 73))), (3, .inl (x3))]) (st' := [.inl ((x3) + (2)), .inr (.inr (some 999)), .inl (v2), .inr (.inr (some 0))]) (nc' := 126) (np' := 138) (M' := M) 4 rfl ?_
        obtain ⟨hc, h⟩ := ck_i h
        obtain ⟨v3, ev, h⟩ := tw_i h
        refine ev_sld rfl rfl hc ev ?_
        refine ev_k (pc' := 183) (ls' := [(0, .inr (.inr (some 999))), (1, .inr (.inr (some 0))), (2, .inr (.inr (some 73))), (3, .inl (x3))]) (st' := [.inl ((x3) + (3)), .inr (.inr (some 999)), .inl (v3), .inl (v2), .inr (.inr (some 0))]) (nc' := 126) (np' := 138) (M' := M) 4 rfl ?_
        obtain ⟨hc, h⟩ := ck_i h
        obtain ⟨v4, ev, h⟩ := tw_i h
        refine ev_sld rfl rfl hc ev ?_
        refine ev_k (pc' := 188) (ls' := [(0, .inr (.inr (some 999))), (1, .inr (.inr (some 0))), (2, .inr (.inr (some 73))), (3, .inl (x3))]) (st' := [.inl ((x3) + (4)), .inr (.inr (some 999)), .inl (v4), .inl (v3), .inl (v2), .inr (.inr (some 0))]) (nc' := 126) (np' := 138) (M' := M) 4 rfl ?_
        obtain ⟨hc, h⟩ := ck_i h
        obtain ⟨v5, ev, h⟩ := tw_i h
        refine ev_sld rfl rfl hc ev ?_
        refine ev_k (pc' := 193) (ls' := [(0, .inr (.inr (some 999))), (1, .inr (.inr (some 0))), (2, .inr (.inr (some 73))), (3, .inl (x3))]) (st' := [.inl ((x3) + (5)), .inr (.inr (some 999)), .inl (v5), .inl (v4), .inl (v3), .inl (v2), .inr (.inr (some 0))]) (nc' := 126) (np' := 138) (M' := M) 4 rfl ?_
        obtain ⟨hc, h⟩ := ck_i h
        obtain ⟨v6, ev, h⟩ := tw_i h
        refine ev_sld rfl rfl hc ev ?_
        refine ev_k (pc' := 194) (ls' := [(0, .inr (.inr (some 999))), (1, .inr (.inr (some 0))), (2, .inr (.inr (some 73))), (3, .inl (x3))]) (st' := [.inl (v6), .inl (v5), .inl (v4), .inl (v3), .inl (v2), .inr (.inr (some 0))]) (nc' := 126) (np' := 138) (M' := M) 0 rfl ?_
        obtain ⟨v7, M8, hv, h⟩ := oc_i h
        refine ev_call (t := 16) (as := [.inr (.inr (some 0)), .inl (v2), .inl (v3), .inl (v4), .inl (v5), .inl (v6)]) (rest := []) rfl rfl rfl (by omega) (P_feed_e (by omega) (v2) (v3) (v4) (v5) (v6) M _ hv) ?_
        refine ev_k (pc' := 202) (ls' := [(0, .inr (.inr (some 999))), (1, .inr (.inr (some 0))), (2, .inr (.inr (some 73))), (3, .inl (x3))]) (st' := [.inl ((x3) + (1)), .inr (.inr (some 999)), .inr (.inr (some 73)), .inl (v7)]) (nc' := 126) (np' := 138) (M' := M8) 5 rfl ?_
        obtain ⟨hc, h⟩ := ck_i h
        obtain ⟨v9, ev, h⟩ := tw_i h
        refine ev_sld rfl rfl hc ev ?_
        refine ev_k (pc' := 207) (ls' := [(0, .inr (.inr (some 999))), (1, .inr (.inr (some 0))), (2, .inr (.inr (some 73))), (3, .inl (x3))]) (st' := [.inl ((x3) + (2)), .inr (.inr (some 999)), .inl (v9), .inr (.inr (some 73)), .inl (v7)]) (nc' := 126) (np' := 138) (M' := M8) 4 rfl ?_
        obtain ⟨hc, h⟩ := ck_i h
        obtain ⟨v10, ev, h⟩ := tw_i h
        refine ev_sld rfl rfl hc ev ?_
        refine ev_k (pc' := 212) (ls' := [(0, .inr (.inr (some 999))), (1, .inr (.inr (some 0))), (2, .inr (.inr (some 73))), (3, .inl (x3))]) (st' := [.inl ((x3) + (3)), .inr (.inr (some 999)), .inl (v10), .inl (v9), .inr (.inr (some 73)), .inl (v7)]) (nc' := 126) (np' := 138) (M' := M8) 4 rfl ?_
        obtain ⟨hc, h⟩ := ck_i h
        obtain ⟨v11, ev, h⟩ := tw_i h
        refine ev_sld rfl rfl hc ev ?_
        refine ev_k (pc' := 217) (ls' := [(0, .inr (.inr (some 999))), (1, .inr (.inr (some 0))), (2, .inr (.inr (some 73))), (3, .inl (x3))]) (st' := [.inl ((x3) + (4)), .inr (.inr (some 999)), .inl (v11), .inl (v10), .inl (v9), .inr (.inr (some 73)), .inl (v7)]) (nc' := 126) (np' := 138) (M' := M8) 4 rfl ?_
        obtain ⟨hc, h⟩ := ck_i h
        obtain ⟨v12, ev, h⟩ := tw_i h
        refine ev_sld rfl rfl hc ev ?_
        refine ev_k (pc' := 222) (ls' := [(0, .inr (.inr (some 999))), (1, .inr (.inr (some 0))), (2, .inr (.inr (some 73))), (3, .inl (x3))]) (st' := [.inl ((x3) + (5)), .inr (.inr (some 999)), .inl (v12), .inl (v11), .inl (v10), .inl (v9), .inr (.inr (some 73)), .inl (v7)]) (nc' := 126) (np' := 138) (M' := M8) 4 rfl ?_
        obtain ⟨hc, h⟩ := ck_i h
        obtain ⟨v13, ev, h⟩ := tw_i h
        refine ev_sld rfl rfl hc ev ?_
        refine ev_k (pc' := 223) (ls' := [(0, .inr (.inr (some 999))), (1, .inr (.inr (some 0))), (2, .inr (.inr (some 73))), (3, .inl (x3))]) (st' := [.inl (v13), .inl (v12), .inl (v11), .inl (v10), .inl (v9), .inr (.inr (some 73)), .inl (v7)]) (nc' := 126) (np' := 138) (M' := M8) 0 rfl ?_
        obtain ⟨v14, M15, hv, h⟩ := oc_i h
        refine ev_call (t := 190) (as := [.inr (.inr (some 73)), .inl (v9), .inl (v10), .inl (v11), .inl (v12), .inl (v13)]) (rest := [.inl (v7)]) rfl rfl rfl (by omega) (R_feed_e (by omega) (v9) (v10) (v11) (v12) (v13) M8 _ hv) ?_
        refine ev_k (pc' := 226) (ls' := [(0, .inr (.inr (some 999))), (1, .inr (.inr (some 0))), (2, .inr (.inr (some 73))), (3, .inl (x3))]) (st' := [.inl (v14), .inl (v7)]) (nc' := 126) (np' := 138) (M' := M15) 0 rfl ?_
        obtain ⟨hR, ⟨hc, h⟩ | ⟨hc, h⟩⟩ := c_eq_i h
        · refine ev_icmp 1039 rfl hR.1 hR.2 (by decide) (fun _ => ?_) (fun q => absurd hc q)
          exact BlazedPathLaw_law_999_n0_1039_t hd   (BlazedPathLaw_law_999_n0_18 L xs   n) ih (x3) M15 r h
        · refine ev_icmp 1039 rfl hR.1 hR.2 (by decide) (fun q => absurd q hc) (fun _ => ?_)
          refine ev_k (pc' := 230) (ls' := [(0, .inr (.inr (some 999))), (1, .inr (.inr (some 0))), (2, .inr (.inr (some 73))), (3, .inl (x3))]) (st' := [.inl (0)]) (nc' := 126) (np' := 138) (M' := M15) 1 rfl ?_
          cases h
          exact ev_ret rfl
      · skip
        rcases if_i h with ⟨hq, h⟩ | ⟨hq1, h⟩
        · refine ev_tsw 231 rfl hR (198) (Or.inr ⟨by rw [hq]; decide, by rw [hq]; rfl⟩) (by decide) ?_
          refine ev_k (pc' := 236) (ls' := [(0, .inr (.inr (some 999))), (1, .inr (.inr (some 0))), (2, .inr (.inr (some 73))), (3, .inl (x3))]) (st' := [.inl ((x3) + (1)), .inr (.inr (some 999)), .inr (.inr (some 0))]) (nc' := 126) (np' := 138) (M' := M) 5 rfl ?_
          obtain ⟨hc, h⟩ := ck_i h
          obtain ⟨v16, ev, h⟩ := tw_i h
          refine ev_sld rfl rfl hc ev ?_
          refine ev_k (pc' := 237) (ls' := [(0, .inr (.inr (some 999))), (1, .inr (.inr (some 0))), (2, .inr (.inr (some 73))), (3, .inl (x3))]) (st' := [.inl (v16), .inr (.inr (some 0))]) (nc' := 126) (np' := 138) (M' := M) 0 rfl ?_
          obtain ⟨v17, M18, hv, h⟩ := oc_i h
          refine ev_call (t := 20) (as := [.inr (.inr (some 0)), .inl (v16)]) (rest := []) rfl rfl rfl (by omega) (P_forest_e (by omega) (v16) M _ hv) ?_
          refine ev_k (pc' := 245) (ls' := [(0, .inr (.inr (some 999))), (1, .inr (.inr (some 0))), (2, .inr (.inr (some 73))), (3, .inl (x3))]) (st' := [.inl ((x3) + (1)), .inr (.inr (some 999)), .inr (.inr (some 73)), .inl (v17)]) (nc' := 126) (np' := 138) (M' := M18) 5 rfl ?_
          obtain ⟨hc, h⟩ := ck_i h
          obtain ⟨v19, ev, h⟩ := tw_i h
          refine ev_sld rfl rfl hc ev ?_
          refine ev_k (pc' := 246) (ls' := [(0, .inr (.inr (some 999))), (1, .inr (.inr (some 0))), (2, .inr (.inr (some 73))), (3, .inl (x3))]) (st' := [.inl (v19), .inr (.inr (some 73)), .inl (v17)]) (nc' := 126) (np' := 138) (M' := M18) 0 rfl ?_
          obtain ⟨v20, M21, hv, h⟩ := oc_i h
          refine ev_call (t := 192) (as := [.inr (.inr (some 73)), .inl (v19)]) (rest := [.inl (v17)]) rfl rfl rfl (by omega) (R_forest_e (by omega) (v19) M18 _ hv) ?_
          refine ev_k (pc' := 249) (ls' := [(0, .inr (.inr (some 999))), (1, .inr (.inr (some 0))), (2, .inr (.inr (some 73))), (3, .inl (x3))]) (st' := [.inl (v20), .inl (v17)]) (nc' := 126) (np' := 138) (M' := M21) 0 rfl ?_
          obtain ⟨hR, ⟨hc, h⟩ | ⟨hc, h⟩⟩ := c_eq_i h
          · refine ev_icmp 1039 rfl hR.1 hR.2 (by decide) (fun _ => ?_) (fun q => absurd hc q)
            exact BlazedPathLaw_law_999_n0_1039_t hd   (BlazedPathLaw_law_999_n0_18 L xs   n) ih (x3) M21 r h
          · refine ev_icmp 1039 rfl hR.1 hR.2 (by decide) (fun q => absurd q hc) (fun _ => ?_)
            refine ev_k (pc' := 253) (ls' := [(0, .inr (.inr (some 999))), (1, .inr (.inr (some 0))), (2, .inr (.inr (some 73))), (3, .inl (x3))]) (st' := [.inl (0)]) (nc' := 126) (np' := 138) (M' := M21) 1 rfl ?_
            cases h
            exact ev_ret rfl
        · skip
          rcases if_i h with ⟨hq, h⟩ | ⟨hq2, h⟩
          · refine ev_tsw 254 rfl hR (221) (Or.inr ⟨by rw [hq]; decide, by rw [hq]; rfl⟩) (by decide) ?_
            refine ev_k (pc' := 259) (ls' := [(0, .inr (.inr (some 999))), (1, .inr (.inr (some 0))), (2, .inr (.inr (some 73))), (3, .inl (x3))]) (st' := [.inl ((x3) + (1)), .inr (.inr (some 999)), .inr (.inr (some 0))]) (nc' := 126) (np' := 138) (M' := M) 5 rfl ?_
            obtain ⟨hc, h⟩ := ck_i h
            obtain ⟨v22, ev, h⟩ := tw_i h
            refine ev_sld rfl rfl hc ev ?_
            refine ev_k (pc' := 260) (ls' := [(0, .inr (.inr (some 999))), (1, .inr (.inr (some 0))), (2, .inr (.inr (some 73))), (3, .inl (x3))]) (st' := [.inl (v22), .inr (.inr (some 0))]) (nc' := 126) (np' := 138) (M' := M) 0 rfl ?_
            obtain ⟨v23, M24, hv, h⟩ := oc_i h
            refine ev_call (t := 33) (as := [.inr (.inr (some 0)), .inl (v22)]) (rest := []) rfl rfl rfl (by omega) (P_law_e (by omega) (v22) M _ hv) ?_
            refine ev_k (pc' := 268) (ls' := [(0, .inr (.inr (some 999))), (1, .inr (.inr (some 0))), (2, .inr (.inr (some 73))), (3, .inl (x3))]) (st' := [.inl ((x3) + (1)), .inr (.inr (some 999)), .inr (.inr (some 73)), .inl (v23)]) (nc' := 126) (np' := 138) (M' := M24) 5 rfl ?_
            obtain ⟨hc, h⟩ := ck_i h
            obtain ⟨v25, ev, h⟩ := tw_i h
            refine ev_sld rfl rfl hc ev ?_
            refine ev_k (pc' := 269) (ls' := [(0, .inr (.inr (some 999))), (1, .inr (.inr (some 0))), (2, .inr (.inr (some 73))), (3, .inl (x3))]) (st' := [.inl (v25), .inr (.inr (some 73)), .inl (v23)]) (nc' := 126) (np' := 138) (M' := M24) 0 rfl ?_
            obtain ⟨v26, M27, hv, h⟩ := oc_i h
            refine ev_call (t := 203) (as := [.inr (.inr (some 73)), .inl (v25)]) (rest := [.inl (v23)]) rfl rfl rfl (by omega) (R_lawm_e (by omega) (v25) M24 _ hv) ?_
            refine ev_k (pc' := 272) (ls' := [(0, .inr (.inr (some 999))), (1, .inr (.inr (some 0))), (2, .inr (.inr (some 73))), (3, .inl (x3))]) (st' := [.inl (v26), .inl (v23)]) (nc' := 126) (np' := 138) (M' := M27) 0 rfl ?_
            obtain ⟨hR, ⟨hc, h⟩ | ⟨hc, h⟩⟩ := c_eq_i h
            · refine ev_icmp 1039 rfl hR.1 hR.2 (by decide) (fun _ => ?_) (fun q => absurd hc q)
              exact BlazedPathLaw_law_999_n0_1039_t hd   (BlazedPathLaw_law_999_n0_18 L xs   n) ih (x3) M27 r h
            · refine ev_icmp 1039 rfl hR.1 hR.2 (by decide) (fun q => absurd q hc) (fun _ => ?_)
              refine ev_k (pc' := 276) (ls' := [(0, .inr (.inr (some 999))), (1, .inr (.inr (some 0))), (2, .inr (.inr (some 73))), (3, .inl (x3))]) (st' := [.inl (0)]) (nc' := 126) (np' := 138) (M' := M27) 1 rfl ?_
              cases h
              exact ev_ret rfl
          · skip
            rcases if_i h with ⟨hq, h⟩ | ⟨hq3, h⟩
            · refine ev_tsw 277 rfl hR (244) (Or.inr ⟨by rw [hq]; decide, by rw [hq]; rfl⟩) (by decide) ?_
              refine ev_k (pc' := 282) (ls' := [(0, .inr (.inr (some 999))), (1, .inr (.inr (some 0))), (2, .inr (.inr (some 73))), (3, .inl (x3))]) (st' := [.inl ((x3) + (1)), .inr (.inr (some 999)), .inr (.inr (some 0))]) (nc' := 126) (np' := 138) (M' := M) 5 rfl ?_
              obtain ⟨hc, h⟩ := ck_i h
              obtain ⟨v28, ev, h⟩ := tw_i h
              refine ev_sld rfl rfl hc ev ?_
              refine ev_k (pc' := 283) (ls' := [(0, .inr (.inr (some 999))), (1, .inr (.inr (some 0))), (2, .inr (.inr (some 73))), (3, .inl (x3))]) (st' := [.inl (v28), .inr (.inr (some 0))]) (nc' := 126) (np' := 138) (M' := M) 0 rfl ?_
              obtain ⟨v29, M30, hv, h⟩ := oc_i h
              refine ev_call (t := 54) (as := [.inr (.inr (some 0)), .inl (v28)]) (rest := []) rfl rfl rfl (by omega) (P_start_e (by omega) (v28) M _ hv) ?_
              refine ev_k (pc' := 291) (ls' := [(0, .inr (.inr (some 999))), (1, .inr (.inr (some 0))), (2, .inr (.inr (some 73))), (3, .inl (x3))]) (st' := [.inl ((x3) + (1)), .inr (.inr (some 999)), .inr (.inr (some 73)), .inl (v29)]) (nc' := 126) (np' := 138) (M' := M30) 5 rfl ?_
              obtain ⟨hc, h⟩ := ck_i h
              obtain ⟨v31, ev, h⟩ := tw_i h
              refine ev_sld rfl rfl hc ev ?_
              refine ev_k (pc' := 292) (ls' := [(0, .inr (.inr (some 999))), (1, .inr (.inr (some 0))), (2, .inr (.inr (some 73))), (3, .inl (x3))]) (st' := [.inl (v31), .inr (.inr (some 73)), .inl (v29)]) (nc' := 126) (np' := 138) (M' := M30) 0 rfl ?_
              obtain ⟨v32, M33, hv, h⟩ := oc_i h
              refine ev_call (t := 229) (as := [.inr (.inr (some 73)), .inl (v31)]) (rest := [.inl (v29)]) rfl rfl rfl (by omega) (R_start_e (by omega) (v31) M30 _ hv) ?_
              refine ev_k (pc' := 295) (ls' := [(0, .inr (.inr (some 999))), (1, .inr (.inr (some 0))), (2, .inr (.inr (some 73))), (3, .inl (x3))]) (st' := [.inl (v32), .inl (v29)]) (nc' := 126) (np' := 138) (M' := M33) 0 rfl ?_
              obtain ⟨hR, ⟨hc, h⟩ | ⟨hc, h⟩⟩ := c_eq_i h
              · refine ev_icmp 1039 rfl hR.1 hR.2 (by decide) (fun _ => ?_) (fun q => absurd hc q)
                exact BlazedPathLaw_law_999_n0_1039_t hd   (BlazedPathLaw_law_999_n0_18 L xs   n) ih (x3) M33 r h
              · refine ev_icmp 1039 rfl hR.1 hR.2 (by decide) (fun q => absurd q hc) (fun _ => ?_)
                refine ev_k (pc' := 299) (ls' := [(0, .inr (.inr (some 999))), (1, .inr (.inr (some 0))), (2, .inr (.inr (some 73))), (3, .inl (x3))]) (st' := [.inl (0)]) (nc' := 126) (np' := 138) (M' := M33) 1 rfl ?_
                cases h
                exact ev_ret rfl
            · skip
              rcases if_i h with ⟨hq, h⟩ | ⟨hq4, h⟩
              · refine ev_tsw 300 rfl hR (267) (Or.inr ⟨by rw [hq]; decide, by rw [hq]; rfl⟩) (by decide) ?_
                refine ev_k (pc' := 305) (ls' := [(0, .inr (.inr (some 999))), (1, .inr (.inr (some 0))), (2, .inr (.inr (some 73))), (3, .inl (x3))]) (st' := [.inl ((x3) + (1)), .inr (.inr (some 999)), .inr (.inr (some 0))]) (nc' := 126) (np' := 138) (M' := M) 5 rfl ?_
                obtain ⟨hc, h⟩ := ck_i h
                obtain ⟨v34, ev, h⟩ := tw_i h
                refine ev_sld rfl rfl hc ev ?_
                refine ev_k (pc' := 310) (ls' := [(0, .inr (.inr (some 999))), (1, .inr (.inr (some 0))), (2, .inr (.inr (some 73))), (3, .inl (x3))]) (st' := [.inl ((x3) + (2)), .inr (.inr (some 999)), .inl (v34), .inr (.inr (some 0))]) (nc' := 126) (np' := 138) (M' := M) 4 rfl ?_
                obtain ⟨hc, h⟩ := ck_i h
                obtain ⟨v35, ev, h⟩ := tw_i h
                refine ev_sld rfl rfl hc ev ?_
                refine ev_k (pc' := 311) (ls' := [(0, .inr (.inr (some 999))), (1, .inr (.inr (some 0))), (2, .inr (.inr (some 73))), (3, .inl (x3))]) (st' := [.inl (v35), .inl (v34), .inr (.inr (some 0))]) (nc' := 126) (np' := 138) (M' := M) 0 rfl ?_
                obtain ⟨v36, M37, hv, h⟩ := oc_i h
                refine ev_call (t := 57) (as := [.inr (.inr (some 0)), .inl (v34), .inl (v35)]) (rest := []) rfl rfl rfl (by omega) (P_person_e (by omega) (v34) (v35) M _ hv) ?_
                refine ev_k (pc' := 319) (ls' := [(0, .inr (.inr (some 999))), (1, .inr (.inr (some 0))), (2, .inr (.inr (some 73))), (3, .inl (x3))]) (st' := [.inl ((x3) + (1)), .inr (.inr (some 999)), .inr (.inr (some 73)), .inl (v36)]) (nc' := 126) (np' := 138) (M' := M37) 5 rfl ?_
                obtain ⟨hc, h⟩ := ck_i h
                obtain ⟨v38, ev, h⟩ := tw_i h
                refine ev_sld rfl rfl hc ev ?_
                refine ev_k (pc' := 324) (ls' := [(0, .inr (.inr (some 999))), (1, .inr (.inr (some 0))), (2, .inr (.inr (some 73))), (3, .inl (x3))]) (st' := [.inl ((x3) + (2)), .inr (.inr (some 999)), .inl (v38), .inr (.inr (some 73)), .inl (v36)]) (nc' := 126) (np' := 138) (M' := M37) 4 rfl ?_
                obtain ⟨hc, h⟩ := ck_i h
                obtain ⟨v39, ev, h⟩ := tw_i h
                refine ev_sld rfl rfl hc ev ?_
                refine ev_k (pc' := 325) (ls' := [(0, .inr (.inr (some 999))), (1, .inr (.inr (some 0))), (2, .inr (.inr (some 73))), (3, .inl (x3))]) (st' := [.inl (v39), .inl (v38), .inr (.inr (some 73)), .inl (v36)]) (nc' := 126) (np' := 138) (M' := M37) 0 rfl ?_
                obtain ⟨v40, M41, hv, h⟩ := oc_i h
                refine ev_call (t := 223) (as := [.inr (.inr (some 73)), .inl (v38), .inl (v39)]) (rest := [.inl (v36)]) rfl rfl rfl (by omega) (R_person_e (by omega) (v38) (v39) M37 _ hv) ?_
                refine ev_k (pc' := 328) (ls' := [(0, .inr (.inr (some 999))), (1, .inr (.inr (some 0))), (2, .inr (.inr (some 73))), (3, .inl (x3))]) (st' := [.inl (v40), .inl (v36)]) (nc' := 126) (np' := 138) (M' := M41) 0 rfl ?_
                obtain ⟨hR, ⟨hc, h⟩ | ⟨hc, h⟩⟩ := c_eq_i h
                · refine ev_icmp 1039 rfl hR.1 hR.2 (by decide) (fun _ => ?_) (fun q => absurd hc q)
                  exact BlazedPathLaw_law_999_n0_1039_t hd   (BlazedPathLaw_law_999_n0_18 L xs   n) ih (x3) M41 r h
                · refine ev_icmp 1039 rfl hR.1 hR.2 (by decide) (fun q => absurd q hc) (fun _ => ?_)
                  refine ev_k (pc' := 332) (ls' := [(0, .inr (.inr (some 999))), (1, .inr (.inr (some 0))), (2, .inr (.inr (some 73))), (3, .inl (x3))]) (st' := [.inl (0)]) (nc' := 126) (np' := 138) (M' := M41) 1 rfl ?_
                  cases h
                  exact ev_ret rfl
              · skip
                rcases if_i h with ⟨hq, h⟩ | ⟨hq5, h⟩
                · refine ev_tsw 333 rfl hR (300) (Or.inr ⟨by rw [hq]; decide, by rw [hq]; rfl⟩) (by decide) ?_
                  refine ev_k (pc' := 338) (ls' := [(0, .inr (.inr (some 999))), (1, .inr (.inr (some 0))), (2, .inr (.inr (some 73))), (3, .inl (x3))]) (st' := [.inl ((x3) + (1)), .inr (.inr (some 999)), .inr (.inr (some 0))]) (nc' := 126) (np' := 138) (M' := M) 5 rfl ?_
                  obtain ⟨hc, h⟩ := ck_i h
                  obtain ⟨v42, ev, h⟩ := tw_i h
                  refine ev_sld rfl rfl hc ev ?_
                  refine ev_k (pc' := 339) (ls' := [(0, .inr (.inr (some 999))), (1, .inr (.inr (some 0))), (2, .inr (.inr (some 73))), (3, .inl (x3))]) (st' := [.inl (v42), .inr (.inr (some 0))]) (nc' := 126) (np' := 138) (M' := M) 0 rfl ?_
                  obtain ⟨v43, M44, hv, h⟩ := oc_i h
                  refine ev_call (t := 64) (as := [.inr (.inr (some 0)), .inl (v42)]) (rest := []) rfl rfl rfl (by omega) (P_ahead_e (by omega) (v42) M _ hv) ?_
                  refine ev_k (pc' := 347) (ls' := [(0, .inr (.inr (some 999))), (1, .inr (.inr (some 0))), (2, .inr (.inr (some 73))), (3, .inl (x3))]) (st' := [.inl ((x3) + (1)), .inr (.inr (some 999)), .inr (.inr (some 73)), .inl (v43)]) (nc' := 126) (np' := 138) (M' := M44) 5 rfl ?_
                  obtain ⟨hc, h⟩ := ck_i h
                  obtain ⟨v45, ev, h⟩ := tw_i h
                  refine ev_sld rfl rfl hc ev ?_
                  refine ev_k (pc' := 348) (ls' := [(0, .inr (.inr (some 999))), (1, .inr (.inr (some 0))), (2, .inr (.inr (some 73))), (3, .inl (x3))]) (st' := [.inl (v45), .inr (.inr (some 73)), .inl (v43)]) (nc' := 126) (np' := 138) (M' := M44) 0 rfl ?_
                  obtain ⟨v46, M47, hv, h⟩ := oc_i h
                  refine ev_call (t := 224) (as := [.inr (.inr (some 73)), .inl (v45)]) (rest := [.inl (v43)]) rfl rfl rfl (by omega) (R_ahead_e (by omega) (v45) M44 _ hv) ?_
                  refine ev_k (pc' := 351) (ls' := [(0, .inr (.inr (some 999))), (1, .inr (.inr (some 0))), (2, .inr (.inr (some 73))), (3, .inl (x3))]) (st' := [.inl (v46), .inl (v43)]) (nc' := 126) (np' := 138) (M' := M47) 0 rfl ?_
                  obtain ⟨hR, ⟨hc, h⟩ | ⟨hc, h⟩⟩ := c_eq_i h
                  · refine ev_icmp 1039 rfl hR.1 hR.2 (by decide) (fun _ => ?_) (fun q => absurd hc q)
                    exact BlazedPathLaw_law_999_n0_1039_t hd   (BlazedPathLaw_law_999_n0_18 L xs   n) ih (x3) M47 r h
                  · refine ev_icmp 1039 rfl hR.1 hR.2 (by decide) (fun q => absurd q hc) (fun _ => ?_)
                    refine ev_k (pc' := 355) (ls' := [(0, .inr (.inr (some 999))), (1, .inr (.inr (some 0))), (2, .inr (.inr (some 73))), (3, .inl (x3))]) (st' := [.inl (0)]) (nc' := 126) (np' := 138) (M' := M47) 1 rfl ?_
                    cases h
                    exact ev_ret rfl
                · skip
                  rcases if_i h with ⟨hq, h⟩ | ⟨hq6, h⟩
                  · refine ev_tsw 356 rfl hR (323) (Or.inr ⟨by rw [hq]; decide, by rw [hq]; rfl⟩) (by decide) ?_
                    refine ev_k (pc' := 361) (ls' := [(0, .inr (.inr (some 999))), (1, .inr (.inr (some 0))), (2, .inr (.inr (some 73))), (3, .inl (x3))]) (st' := [.inl ((x3) + (1)), .inr (.inr (some 999)), .inr (.inr (some 0))]) (nc' := 126) (np' := 138) (M' := M) 5 rfl ?_
                    obtain ⟨hc, h⟩ := ck_i h
                    obtain ⟨v48, ev, h⟩ := tw_i h
                    refine ev_sld rfl rfl hc ev ?_
                    refine ev_k (pc' := 362) (ls' := [(0, .inr (.inr (some 999))), (1, .inr (.inr (some 0))), (2, .inr (.inr (some 73))), (3, .inl (x3))]) (st' := [.inl (v48), .inr (.inr (some 0))]) (nc' := 126) (np' := 138) (M' := M) 0 rfl ?_
                    obtain ⟨v49, M50, hv, h⟩ := oc_i h
                    refine ev_call (t := 65) (as := [.inr (.inr (some 0)), .inl (v48)]) (rest := []) rfl rfl rfl (by omega) (P_width_e (by omega) (v48) M _ hv) ?_
                    refine ev_k (pc' := 370) (ls' := [(0, .inr (.inr (some 999))), (1, .inr (.inr (some 0))), (2, .inr (.inr (some 73))), (3, .inl (x3))]) (st' := [.inl ((x3) + (1)), .inr (.inr (some 999)), .inr (.inr (some 73)), .inl (v49)]) (nc' := 126) (np' := 138) (M' := M50) 5 rfl ?_
                    obtain ⟨hc, h⟩ := ck_i h
                    obtain ⟨v51, ev, h⟩ := tw_i h
                    refine ev_sld rfl rfl hc ev ?_
                    refine ev_k (pc' := 371) (ls' := [(0, .inr (.inr (some 999))), (1, .inr (.inr (some 0))), (2, .inr (.inr (some 73))), (3, .inl (x3))]) (st' := [.inl (v51), .inr (.inr (some 73)), .inl (v49)]) (nc' := 126) (np' := 138) (M' := M50) 0 rfl ?_
                    obtain ⟨v52, M53, hv, h⟩ := oc_i h
                    refine ev_call (t := 226) (as := [.inr (.inr (some 73)), .inl (v51)]) (rest := [.inl (v49)]) rfl rfl rfl (by omega) (R_width_e (by omega) (v51) M50 _ hv) ?_
                    refine ev_k (pc' := 374) (ls' := [(0, .inr (.inr (some 999))), (1, .inr (.inr (some 0))), (2, .inr (.inr (some 73))), (3, .inl (x3))]) (st' := [.inl (v52), .inl (v49)]) (nc' := 126) (np' := 138) (M' := M53) 0 rfl ?_
                    obtain ⟨hR, ⟨hc, h⟩ | ⟨hc, h⟩⟩ := c_eq_i h
                    · refine ev_icmp 1039 rfl hR.1 hR.2 (by decide) (fun _ => ?_) (fun q => absurd hc q)
                      exact BlazedPathLaw_law_999_n0_1039_t hd   (BlazedPathLaw_law_999_n0_18 L xs   n) ih (x3) M53 r h
                    · refine ev_icmp 1039 rfl hR.1 hR.2 (by decide) (fun q => absurd q hc) (fun _ => ?_)
                      refine ev_k (pc' := 378) (ls' := [(0, .inr (.inr (some 999))), (1, .inr (.inr (some 0))), (2, .inr (.inr (some 73))), (3, .inl (x3))]) (st' := [.inl (0)]) (nc' := 126) (np' := 138) (M' := M53) 1 rfl ?_
                      cases h
                      exact ev_ret rfl
                  · skip
                    rcases if_i h with ⟨hq, h⟩ | ⟨hq7, h⟩
                    · refine ev_tsw 379 rfl hR (346) (Or.inr ⟨by rw [hq]; decide, by rw [hq]; rfl⟩) (by decide) ?_
                      refine ev_k (pc' := 384) (ls' := [(0, .inr (.inr (some 999))), (1, .inr (.inr (some 0))), (2, .inr (.inr (some 73))), (3, .inl (x3))]) (st' := [.inl ((x3) + (1)), .inr (.inr (some 999)), .inr (.inr (some 0))]) (nc' := 126) (np' := 138) (M' := M) 5 rfl ?_
                      obtain ⟨hc, h⟩ := ck_i h
                      obtain ⟨v54, ev, h⟩ := tw_i h
                      refine ev_sld rfl rfl hc ev ?_
                      refine ev_k (pc' := 385) (ls' := [(0, .inr (.inr (some 999))), (1, .inr (.inr (some 0))), (2, .inr (.inr (some 73))), (3, .inl (x3))]) (st' := [.inl (v54), .inr (.inr (some 0))]) (nc' := 126) (np' := 138) (M' := M) 0 rfl ?_
                      obtain ⟨v55, M56, hv, h⟩ := oc_i h
                      refine ev_call (t := 66) (as := [.inr (.inr (some 0)), .inl (v54)]) (rest := []) rfl rfl rfl (by omega) (P_light_e (by omega) (v54) M _ hv) ?_
                      refine ev_k (pc' := 393) (ls' := [(0, .inr (.inr (some 999))), (1, .inr (.inr (some 0))), (2, .inr (.inr (some 73))), (3, .inl (x3))]) (st' := [.inl ((x3) + (1)), .inr (.inr (some 999)), .inr (.inr (some 73)), .inl (v55)]) (nc' := 126) (np' := 138) (M' := M56) 5 rfl ?_
                      obtain ⟨hc, h⟩ := ck_i h
                      obtain ⟨v57, ev, h⟩ := tw_i h
                      refine ev_sld rfl rfl hc ev ?_
                      refine ev_k (pc' := 394) (ls' := [(0, .inr (.inr (some 999))), (1, .inr (.inr (some 0))), (2, .inr (.inr (some 73))), (3, .inl (x3))]) (st' := [.inl (v57), .inr (.inr (some 73)), .inl (v55)]) (nc' := 126) (np' := 138) (M' := M56) 0 rfl ?_
                      obtain ⟨v58, M59, hv, h⟩ := oc_i h
                      refine ev_call (t := 227) (as := [.inr (.inr (some 73)), .inl (v57)]) (rest := [.inl (v55)]) rfl rfl rfl (by omega) (R_light_e (by omega) (v57) M56 _ hv) ?_
                      refine ev_k (pc' := 397) (ls' := [(0, .inr (.inr (some 999))), (1, .inr (.inr (some 0))), (2, .inr (.inr (some 73))), (3, .inl (x3))]) (st' := [.inl (v58), .inl (v55)]) (nc' := 126) (np' := 138) (M' := M59) 0 rfl ?_
                      obtain ⟨hR, ⟨hc, h⟩ | ⟨hc, h⟩⟩ := c_eq_i h
                      · refine ev_icmp 1039 rfl hR.1 hR.2 (by decide) (fun _ => ?_) (fun q => absurd hc q)
                        exact BlazedPathLaw_law_999_n0_1039_t hd   (BlazedPathLaw_law_999_n0_18 L xs   n) ih (x3) M59 r h
                      · refine ev_icmp 1039 rfl hR.1 hR.2 (by decide) (fun q => absurd q hc) (fun _ => ?_)
                        refine ev_k (pc' := 401) (ls' := [(0, .inr (.inr (some 999))), (1, .inr (.inr (some 0))), (2, .inr (.inr (some 73))), (3, .inl (x3))]) (st' := [.inl (0)]) (nc' := 126) (np' := 138) (M' := M59) 1 rfl ?_
                        cases h
                        exact ev_ret rfl
                    · skip
                      rcases if_i h with ⟨hq, h⟩ | ⟨hq8, h⟩
                      · refine ev_tsw 402 rfl hR (369) (Or.inr ⟨by rw [hq]; decide, by rw [hq]; rfl⟩) (by decide) ?_
                        refine ev_k (pc' := 407) (ls' := [(0, .inr (.inr (some 999))), (1, .inr (.inr (some 0))), (2, .inr (.inr (some 73))), (3, .inl (x3))]) (st' := [.inl ((x3) + (1)), .inr (.inr (some 999)), .inr (.inr (some 0))]) (nc' := 126) (np' := 138) (M' := M) 5 rfl ?_
                        obtain ⟨hc, h⟩ := ck_i h
                        obtain ⟨v60, ev, h⟩ := tw_i h
                        refine ev_sld rfl rfl hc ev ?_
                        refine ev_k (pc' := 408) (ls' := [(0, .inr (.inr (some 999))), (1, .inr (.inr (some 0))), (2, .inr (.inr (some 73))), (3, .inl (x3))]) (st' := [.inl (v60), .inr (.inr (some 0))]) (nc' := 126) (np' := 138) (M' := M) 0 rfl ?_
                        obtain ⟨v61, M62, hv, h⟩ := oc_i h
                        refine ev_call (t := 67) (as := [.inr (.inr (some 0)), .inl (v60)]) (rest := []) rfl rfl rfl (by omega) (P_orders_e (by omega) (v60) M _ hv) ?_
                        refine ev_k (pc' := 416) (ls' := [(0, .inr (.inr (some 999))), (1, .inr (.inr (some 0))), (2, .inr (.inr (some 73))), (3, .inl (x3))]) (st' := [.inl ((x3) + (1)), .inr (.inr (some 999)), .inr (.inr (some 73)), .inl (v61)]) (nc' := 126) (np' := 138) (M' := M62) 5 rfl ?_
                        obtain ⟨hc, h⟩ := ck_i h
                        obtain ⟨v63, ev, h⟩ := tw_i h
                        refine ev_sld rfl rfl hc ev ?_
                        refine ev_k (pc' := 417) (ls' := [(0, .inr (.inr (some 999))), (1, .inr (.inr (some 0))), (2, .inr (.inr (some 73))), (3, .inl (x3))]) (st' := [.inl (v63), .inr (.inr (some 73)), .inl (v61)]) (nc' := 126) (np' := 138) (M' := M62) 0 rfl ?_
                        obtain ⟨v64, M65, hv, h⟩ := oc_i h
                        refine ev_call (t := 236) (as := [.inr (.inr (some 73)), .inl (v63)]) (rest := [.inl (v61)]) rfl rfl rfl (by omega) (R_orders_e (by omega) (v63) M62 _ hv) ?_
                        refine ev_k (pc' := 420) (ls' := [(0, .inr (.inr (some 999))), (1, .inr (.inr (some 0))), (2, .inr (.inr (some 73))), (3, .inl (x3))]) (st' := [.inl (v64), .inl (v61)]) (nc' := 126) (np' := 138) (M' := M65) 0 rfl ?_
                        obtain ⟨hR, ⟨hc, h⟩ | ⟨hc, h⟩⟩ := c_eq_i h
                        · refine ev_icmp 1039 rfl hR.1 hR.2 (by decide) (fun _ => ?_) (fun q => absurd hc q)
                          exact BlazedPathLaw_law_999_n0_1039_t hd   (BlazedPathLaw_law_999_n0_18 L xs   n) ih (x3) M65 r h
                        · refine ev_icmp 1039 rfl hR.1 hR.2 (by decide) (fun q => absurd q hc) (fun _ => ?_)
                          refine ev_k (pc' := 424) (ls' := [(0, .inr (.inr (some 999))), (1, .inr (.inr (some 0))), (2, .inr (.inr (some 73))), (3, .inl (x3))]) (st' := [.inl (0)]) (nc' := 126) (np' := 138) (M' := M65) 1 rfl ?_
                          cases h
                          exact ev_ret rfl
                      · skip
                        rcases if_i h with ⟨hq, h⟩ | ⟨hq9, h⟩
                        · refine ev_tsw 425 rfl hR (392) (Or.inr ⟨by rw [hq]; decide, by rw [hq]; rfl⟩) (by decide) ?_
                          refine ev_k (pc' := 430) (ls' := [(0, .inr (.inr (some 999))), (1, .inr (.inr (some 0))), (2, .inr (.inr (some 73))), (3, .inl (x3))]) (st' := [.inl ((x3) + (1)), .inr (.inr (some 999)), .inr (.inr (some 0))]) (nc' := 126) (np' := 138) (M' := M) 5 rfl ?_
                          obtain ⟨hc, h⟩ := ck_i h
                          obtain ⟨v66, ev, h⟩ := tw_i h
                          refine ev_sld rfl rfl hc ev ?_
                          refine ev_k (pc' := 435) (ls' := [(0, .inr (.inr (some 999))), (1, .inr (.inr (some 0))), (2, .inr (.inr (some 73))), (3, .inl (x3))]) (st' := [.inl ((x3) + (2)), .inr (.inr (some 999)), .inl (v66), .inr (.inr (some 0))]) (nc' := 126) (np' := 138) (M' := M) 4 rfl ?_
                          obtain ⟨hc, h⟩ := ck_i h
                          obtain ⟨v67, ev, h⟩ := tw_i h
                          refine ev_sld rfl rfl hc ev ?_
                          refine ev_k (pc' := 436) (ls' := [(0, .inr (.inr (some 999))), (1, .inr (.inr (some 0))), (2, .inr (.inr (some 73))), (3, .inl (x3))]) (st' := [.inl (v67), .inl (v66), .inr (.inr (some 0))]) (nc' := 126) (np' := 138) (M' := M) 0 rfl ?_
                          obtain ⟨v68, M69, hv, h⟩ := oc_i h
                          refine ev_call (t := 107) (as := [.inr (.inr (some 0)), .inl (v66), .inl (v67)]) (rest := []) rfl rfl rfl (by omega) (P_tried_e (by omega) (v66) (v67) M _ hv) ?_
                          refine ev_k (pc' := 444) (ls' := [(0, .inr (.inr (some 999))), (1, .inr (.inr (some 0))), (2, .inr (.inr (some 73))), (3, .inl (x3))]) (st' := [.inl ((x3) + (1)), .inr (.inr (some 999)), .inr (.inr (some 73)), .inl (v68)]) (nc' := 126) (np' := 138) (M' := M69) 5 rfl ?_
                          obtain ⟨hc, h⟩ := ck_i h
                          obtain ⟨v70, ev, h⟩ := tw_i h
                          refine ev_sld rfl rfl hc ev ?_
                          refine ev_k (pc' := 449) (ls' := [(0, .inr (.inr (some 999))), (1, .inr (.inr (some 0))), (2, .inr (.inr (some 73))), (3, .inl (x3))]) (st' := [.inl ((x3) + (2)), .inr (.inr (some 999)), .inl (v70), .inr (.inr (some 73)), .inl (v68)]) (nc' := 126) (np' := 138) (M' := M69) 4 rfl ?_
                          obtain ⟨hc, h⟩ := ck_i h
                          obtain ⟨v71, ev, h⟩ := tw_i h
                          refine ev_sld rfl rfl hc ev ?_
                          refine ev_k (pc' := 450) (ls' := [(0, .inr (.inr (some 999))), (1, .inr (.inr (some 0))), (2, .inr (.inr (some 73))), (3, .inl (x3))]) (st' := [.inl (v71), .inl (v70), .inr (.inr (some 73)), .inl (v68)]) (nc' := 126) (np' := 138) (M' := M69) 0 rfl ?_
                          obtain ⟨v72, M73, hv, h⟩ := oc_i h
                          refine ev_call (t := 264) (as := [.inr (.inr (some 73)), .inl (v70), .inl (v71)]) (rest := [.inl (v68)]) rfl rfl rfl (by omega) (R_tried_e (by omega) (v70) (v71) M69 _ hv) ?_
                          refine ev_k (pc' := 453) (ls' := [(0, .inr (.inr (some 999))), (1, .inr (.inr (some 0))), (2, .inr (.inr (some 73))), (3, .inl (x3))]) (st' := [.inl (v72), .inl (v68)]) (nc' := 126) (np' := 138) (M' := M73) 0 rfl ?_
                          obtain ⟨hR, ⟨hc, h⟩ | ⟨hc, h⟩⟩ := c_eq_i h
                          · refine ev_icmp 1039 rfl hR.1 hR.2 (by decide) (fun _ => ?_) (fun q => absurd hc q)
                            exact BlazedPathLaw_law_999_n0_1039_t hd   (BlazedPathLaw_law_999_n0_18 L xs   n) ih (x3) M73 r h
                          · refine ev_icmp 1039 rfl hR.1 hR.2 (by decide) (fun q => absurd q hc) (fun _ => ?_)
                            refine ev_k (pc' := 457) (ls' := [(0, .inr (.inr (some 999))), (1, .inr (.inr (some 0))), (2, .inr (.inr (some 73))), (3, .inl (x3))]) (st' := [.inl (0)]) (nc' := 126) (np' := 138) (M' := M73) 1 rfl ?_
                            cases h
                            exact ev_ret rfl
                        · skip
                          rcases if_i h with ⟨hq, h⟩ | ⟨hq10, h⟩
                          · refine ev_tsw 458 rfl hR (425) (Or.inr ⟨by rw [hq]; decide, by rw [hq]; rfl⟩) (by decide) ?_
                            refine ev_k (pc' := 463) (ls' := [(0, .inr (.inr (some 999))), (1, .inr (.inr (some 0))), (2, .inr (.inr (some 73))), (3, .inl (x3))]) (st' := [.inl ((x3) + (1)), .inr (.inr (some 999)), .inr (.inr (some 0))]) (nc' := 126) (np' := 138) (M' := M) 5 rfl ?_
                            obtain ⟨hc, h⟩ := ck_i h
                            obtain ⟨v74, ev, h⟩ := tw_i h
                            refine ev_sld rfl rfl hc ev ?_
                            refine ev_k (pc' := 464) (ls' := [(0, .inr (.inr (some 999))), (1, .inr (.inr (some 0))), (2, .inr (.inr (some 73))), (3, .inl (x3))]) (st' := [.inl (v74), .inr (.inr (some 0))]) (nc' := 126) (np' := 138) (M' := M) 0 rfl ?_
                            obtain ⟨v75, M76, hv, h⟩ := oc_i h
                            refine ev_call (t := 109) (as := [.inr (.inr (some 0)), .inl (v74)]) (rest := []) rfl rfl rfl (by omega) (P_days_e (by omega) (v74) M _ hv) ?_
                            refine ev_k (pc' := 472) (ls' := [(0, .inr (.inr (some 999))), (1, .inr (.inr (some 0))), (2, .inr (.inr (some 73))), (3, .inl (x3))]) (st' := [.inl ((x3) + (1)), .inr (.inr (some 999)), .inr (.inr (some 73)), .inl (v75)]) (nc' := 126) (np' := 138) (M' := M76) 5 rfl ?_
                            obtain ⟨hc, h⟩ := ck_i h
                            obtain ⟨v77, ev, h⟩ := tw_i h
                            refine ev_sld rfl rfl hc ev ?_
                            refine ev_k (pc' := 473) (ls' := [(0, .inr (.inr (some 999))), (1, .inr (.inr (some 0))), (2, .inr (.inr (some 73))), (3, .inl (x3))]) (st' := [.inl (v77), .inr (.inr (some 73)), .inl (v75)]) (nc' := 126) (np' := 138) (M' := M76) 0 rfl ?_
                            obtain ⟨v78, M79, hv, h⟩ := oc_i h
                            refine ev_call (t := 267) (as := [.inr (.inr (some 73)), .inl (v77)]) (rest := [.inl (v75)]) rfl rfl rfl (by omega) (R_days_e (by omega) (v77) M76 _ hv) ?_
                            refine ev_k (pc' := 476) (ls' := [(0, .inr (.inr (some 999))), (1, .inr (.inr (some 0))), (2, .inr (.inr (some 73))), (3, .inl (x3))]) (st' := [.inl (v78), .inl (v75)]) (nc' := 126) (np' := 138) (M' := M79) 0 rfl ?_
                            obtain ⟨hR, ⟨hc, h⟩ | ⟨hc, h⟩⟩ := c_eq_i h
                            · refine ev_icmp 1039 rfl hR.1 hR.2 (by decide) (fun _ => ?_) (fun q => absurd hc q)
                              exact BlazedPathLaw_law_999_n0_1039_t hd   (BlazedPathLaw_law_999_n0_18 L xs   n) ih (x3) M79 r h
                            · refine ev_icmp 1039 rfl hR.1 hR.2 (by decide) (fun q => absurd q hc) (fun _ => ?_)
                              refine ev_k (pc' := 480) (ls' := [(0, .inr (.inr (some 999))), (1, .inr (.inr (some 0))), (2, .inr (.inr (some 73))), (3, .inl (x3))]) (st' := [.inl (0)]) (nc' := 126) (np' := 138) (M' := M79) 1 rfl ?_
                              cases h
                              exact ev_ret rfl
                          · skip
                            rcases if_i h with ⟨hq, h⟩ | ⟨hq11, h⟩
                            · refine ev_tsw 481 rfl hR (448) (Or.inr ⟨by rw [hq]; decide, by rw [hq]; rfl⟩) (by decide) ?_
                              refine ev_k (pc' := 486) (ls' := [(0, .inr (.inr (some 999))), (1, .inr (.inr (some 0))), (2, .inr (.inr (some 73))), (3, .inl (x3))]) (st' := [.inl ((x3) + (1)), .inr (.inr (some 999)), .inr (.inr (some 0))]) (nc' := 126) (np' := 138) (M' := M) 5 rfl ?_
                              obtain ⟨hc, h⟩ := ck_i h
                              obtain ⟨v80, ev, h⟩ := tw_i h
                              refine ev_sld rfl rfl hc ev ?_
                              refine ev_k (pc' := 487) (ls' := [(0, .inr (.inr (some 999))), (1, .inr (.inr (some 0))), (2, .inr (.inr (some 73))), (3, .inl (x3))]) (st' := [.inl (v80), .inr (.inr (some 0))]) (nc' := 126) (np' := 138) (M' := M) 0 rfl ?_
                              obtain ⟨v81, M82, hv, h⟩ := oc_i h
                              refine ev_call (t := 115) (as := [.inr (.inr (some 0)), .inl (v80)]) (rest := []) rfl rfl rfl (by omega) (P_back_e (by omega) (v80) M _ hv) ?_
                              refine ev_k (pc' := 495) (ls' := [(0, .inr (.inr (some 999))), (1, .inr (.inr (some 0))), (2, .inr (.inr (some 73))), (3, .inl (x3))]) (st' := [.inl ((x3) + (1)), .inr (.inr (some 999)), .inr (.inr (some 73)), .inl (v81)]) (nc' := 126) (np' := 138) (M' := M82) 5 rfl ?_
                              obtain ⟨hc, h⟩ := ck_i h
                              obtain ⟨v83, ev, h⟩ := tw_i h
                              refine ev_sld rfl rfl hc ev ?_
                              refine ev_k (pc' := 496) (ls' := [(0, .inr (.inr (some 999))), (1, .inr (.inr (some 0))), (2, .inr (.inr (some 73))), (3, .inl (x3))]) (st' := [.inl (v83), .inr (.inr (some 73)), .inl (v81)]) (nc' := 126) (np' := 138) (M' := M82) 0 rfl ?_
                              obtain ⟨v84, M85, hv, h⟩ := oc_i h
                              refine ev_call (t := 269) (as := [.inr (.inr (some 73)), .inl (v83)]) (rest := [.inl (v81)]) rfl rfl rfl (by omega) (R_back_e (by omega) (v83) M82 _ hv) ?_
                              refine ev_k (pc' := 499) (ls' := [(0, .inr (.inr (some 999))), (1, .inr (.inr (some 0))), (2, .inr (.inr (some 73))), (3, .inl (x3))]) (st' := [.inl (v84), .inl (v81)]) (nc' := 126) (np' := 138) (M' := M85) 0 rfl ?_
                              obtain ⟨hR, ⟨hc, h⟩ | ⟨hc, h⟩⟩ := c_eq_i h
                              · refine ev_icmp 1039 rfl hR.1 hR.2 (by decide) (fun _ => ?_) (fun q => absurd hc q)
                                exact BlazedPathLaw_law_999_n0_1039_t hd   (BlazedPathLaw_law_999_n0_18 L xs   n) ih (x3) M85 r h
                              · refine ev_icmp 1039 rfl hR.1 hR.2 (by decide) (fun q => absurd q hc) (fun _ => ?_)
                                refine ev_k (pc' := 503) (ls' := [(0, .inr (.inr (some 999))), (1, .inr (.inr (some 0))), (2, .inr (.inr (some 73))), (3, .inl (x3))]) (st' := [.inl (0)]) (nc' := 126) (np' := 138) (M' := M85) 1 rfl ?_
                                cases h
                                exact ev_ret rfl
                            · skip
                              rcases if_i h with ⟨hq, h⟩ | ⟨hq12, h⟩
                              · refine ev_tsw 504 rfl hR (471) (Or.inr ⟨by rw [hq]; decide, by rw [hq]; rfl⟩) (by decide) ?_
                                refine ev_k (pc' := 509) (ls' := [(0, .inr (.inr (some 999))), (1, .inr (.inr (some 0))), (2, .inr (.inr (some 73))), (3, .inl (x3))]) (st' := [.inl ((x3) + (1)), .inr (.inr (some 999)), .inr (.inr (some 0))]) (nc' := 126) (np' := 138) (M' := M) 5 rfl ?_
                                obtain ⟨hc, h⟩ := ck_i h
                                obtain ⟨v86, ev, h⟩ := tw_i h
                                refine ev_sld rfl rfl hc ev ?_
                                refine ev_k (pc' := 510) (ls' := [(0, .inr (.inr (some 999))), (1, .inr (.inr (some 0))), (2, .inr (.inr (some 73))), (3, .inl (x3))]) (st' := [.inl (v86), .inr (.inr (some 0))]) (nc' := 126) (np' := 138) (M' := M) 0 rfl ?_
                                obtain ⟨v87, M88, hv, h⟩ := oc_i h
                                refine ev_call (t := 123) (as := [.inr (.inr (some 0)), .inl (v86)]) (rest := []) rfl rfl rfl (by omega) (P_safe_e (by omega) (v86) M _ hv) ?_
                                refine ev_k (pc' := 518) (ls' := [(0, .inr (.inr (some 999))), (1, .inr (.inr (some 0))), (2, .inr (.inr (some 73))), (3, .inl (x3))]) (st' := [.inl ((x3) + (1)), .inr (.inr (some 999)), .inr (.inr (some 73)), .inr (.inl (v87))]) (nc' := 126) (np' := 138) (M' := M88) 5 rfl ?_
                                obtain ⟨hc, h⟩ := ck_i h
                                obtain ⟨v89, ev, h⟩ := tw_i h
                                refine ev_sld rfl rfl hc ev ?_
                                refine ev_k (pc' := 519) (ls' := [(0, .inr (.inr (some 999))), (1, .inr (.inr (some 0))), (2, .inr (.inr (some 73))), (3, .inl (x3))]) (st' := [.inl (v89), .inr (.inr (some 73)), .inr (.inl (v87))]) (nc' := 126) (np' := 138) (M' := M88) 0 rfl ?_
                                obtain ⟨v90, M91, hv, h⟩ := oc_i h
                                refine ev_call (t := 271) (as := [.inr (.inr (some 73)), .inl (v89)]) (rest := [.inr (.inl (v87))]) rfl rfl rfl (by omega) (R_safe_e (by omega) (v89) M88 _ hv) ?_
                                refine ev_k (pc' := 522) (ls' := [(0, .inr (.inr (some 999))), (1, .inr (.inr (some 0))), (2, .inr (.inr (some 73))), (3, .inl (x3))]) (st' := [.inr (.inl (v90)), .inr (.inl (v87))]) (nc' := 126) (np' := 138) (M' := M91) 0 rfl ?_
                                obtain ⟨hc, h⟩ := ck_i h
                                obtain ⟨v92, ev, h⟩ := tw_i h
                                refine ev_lcmp rfl hc ?_
                                rw [← ev]
                                refine ev_k (pc' := 523) (ls' := [(0, .inr (.inr (some 999))), (1, .inr (.inr (some 0))), (2, .inr (.inr (some 73))), (3, .inl (x3))]) (st' := [.inl (v92)]) (nc' := 126) (np' := 138) (M' := M91) 0 rfl ?_
                                obtain ⟨hR, ⟨hc, h⟩ | ⟨hc, h⟩⟩ := c_eq_i h
                                · refine ev_ifc 1039 rfl hR.1 (by decide) (fun _ => ?_) (fun q => absurd hc q)
                                  exact BlazedPathLaw_law_999_n0_1039_t hd   (BlazedPathLaw_law_999_n0_18 L xs   n) ih (x3) M91 r h
                                · refine ev_ifc 1039 rfl hR.1 (by decide) (fun q => absurd q hc) (fun _ => ?_)
                                  refine ev_k (pc' := 527) (ls' := [(0, .inr (.inr (some 999))), (1, .inr (.inr (some 0))), (2, .inr (.inr (some 73))), (3, .inl (x3))]) (st' := [.inl (0)]) (nc' := 126) (np' := 138) (M' := M91) 1 rfl ?_
                                  cases h
                                  exact ev_ret rfl
                              · skip
                                rcases if_i h with ⟨hq, h⟩ | ⟨hq13, h⟩
                                · refine ev_tsw 528 rfl hR (495) (Or.inr ⟨by rw [hq]; decide, by rw [hq]; rfl⟩) (by decide) ?_
                                  refine ev_k (pc' := 529) (ls' := [(0, .inr (.inr (some 999))), (1, .inr (.inr (some 0))), (2, .inr (.inr (some 73))), (3, .inl (x3))]) (st' := [.inr (.inr (some 0))]) (nc' := 126) (np' := 138) (M' := M) 1 rfl ?_
                                  obtain ⟨v93, M94, hv, h⟩ := oc_i h
                                  refine ev_call (t := 127) (as := [.inr (.inr (some 0))]) (rest := []) rfl rfl rfl (by omega) (P_home_e (by omega)  M _ hv) ?_
                                  refine ev_k (pc' := 533) (ls' := [(0, .inr (.inr (some 999))), (1, .inr (.inr (some 0))), (2, .inr (.inr (some 73))), (3, .inl (x3))]) (st' := [.inr (.inr (some 73)), .inl (v93)]) (nc' := 126) (np' := 138) (M' := M94) 1 rfl ?_
                                  obtain ⟨v95, M96, hv, h⟩ := oc_i h
                                  refine ev_call (t := 274) (as := [.inr (.inr (some 73))]) (rest := [.inl (v93)]) rfl rfl rfl (by omega) (R_home_e (by omega)  M94 _ hv) ?_
                                  refine ev_k (pc' := 536) (ls' := [(0, .inr (.inr (some 999))), (1, .inr (.inr (some 0))), (2, .inr (.inr (some 73))), (3, .inl (x3))]) (st' := [.inl (v95), .inl (v93)]) (nc' := 126) (np' := 138) (M' := M96) 0 rfl ?_
                                  obtain ⟨hR, ⟨hc, h⟩ | ⟨hc, h⟩⟩ := c_eq_i h
                                  · refine ev_icmp 1039 rfl hR.1 hR.2 (by decide) (fun _ => ?_) (fun q => absurd hc q)
                                    exact BlazedPathLaw_law_999_n0_1039_t hd   (BlazedPathLaw_law_999_n0_18 L xs   n) ih (x3) M96 r h
                                  · refine ev_icmp 1039 rfl hR.1 hR.2 (by decide) (fun q => absurd q hc) (fun _ => ?_)
                                    refine ev_k (pc' := 540) (ls' := [(0, .inr (.inr (some 999))), (1, .inr (.inr (some 0))), (2, .inr (.inr (some 73))), (3, .inl (x3))]) (st' := [.inl (0)]) (nc' := 126) (np' := 138) (M' := M96) 1 rfl ?_
                                    cases h
                                    exact ev_ret rfl
                                · skip
                                  rcases if_i h with ⟨hq, h⟩ | ⟨hq14, h⟩
                                  · refine ev_tsw 541 rfl hR (508) (Or.inr ⟨by rw [hq]; decide, by rw [hq]; rfl⟩) (by decide) ?_
                                    refine ev_k (pc' := 546) (ls' := [(0, .inr (.inr (some 999))), (1, .inr (.inr (some 0))), (2, .inr (.inr (some 73))), (3, .inl (x3))]) (st' := [.inl ((x3) + (1)), .inr (.inr (some 999)), .inr (.inr (some 0))]) (nc' := 126) (np' := 138) (M' := M) 5 rfl ?_
                                    obtain ⟨hc, h⟩ := ck_i h
                                    obtain ⟨v97, ev, h⟩ := tw_i h
                                    refine ev_sld rfl rfl hc ev ?_
                                    refine ev_k (pc' := 551) (ls' := [(0, .inr (.inr (some 999))), (1, .inr (.inr (some 0))), (2, .inr (.inr (some 73))), (3, .inl (x3))]) (st' := [.inl ((x3) + (2)), .inr (.inr (some 999)), .inl (v97), .inr (.inr (some 0))]) (nc' := 126) (np' := 138) (M' := M) 4 rfl ?_
                                    obtain ⟨hc, h⟩ := ck_i h
                                    obtain ⟨v98, ev, h⟩ := tw_i h
                                    refine ev_sld rfl rfl hc ev ?_
                                    refine ev_k (pc' := 552) (ls' := [(0, .inr (.inr (some 999))), (1, .inr (.inr (some 0))), (2, .inr (.inr (some 73))), (3, .inl (x3))]) (st' := [.inl (v98), .inl (v97), .inr (.inr (some 0))]) (nc' := 126) (np' := 138) (M' := M) 0 rfl ?_
                                    obtain ⟨v99, hv, h⟩ := ob_i h
                                    refine ev_call (t := 130) (as := [.inr (.inr (some 0)), .inl (v97), .inl (v98)]) (rest := []) rfl rfl rfl (by omega) (P_path_e (by omega) (v97) (v98) M _ hv) ?_
                                    refine ev_k (pc' := 560) (ls' := [(0, .inr (.inr (some 999))), (1, .inr (.inr (some 0))), (2, .inr (.inr (some 73))), (3, .inl (x3))]) (st' := [.inl ((x3) + (1)), .inr (.inr (some 999)), .inr (.inr (some 73)), .inl (v99)]) (nc' := 126) (np' := 138) (M' := M) 5 rfl ?_
                                    obtain ⟨hc, h⟩ := ck_i h
                                    obtain ⟨v100, ev, h⟩ := tw_i h
                                    refine ev_sld rfl rfl hc ev ?_
                                    refine ev_k (pc' := 565) (ls' := [(0, .inr (.inr (some 999))), (1, .inr (.inr (some 0))), (2, .inr (.inr (some 73))), (3, .inl (x3))]) (st' := [.inl ((x3) + (2)), .inr (.inr (some 999)), .inl (v100), .inr (.inr (some 73)), .inl (v99)]) (nc' := 126) (np' := 138) (M' := M) 4 rfl ?_
                                    obtain ⟨hc, h⟩ := ck_i h
                                    obtain ⟨v101, ev, h⟩ := tw_i h
                                    refine ev_sld rfl rfl hc ev ?_
                                    refine ev_k (pc' := 566) (ls' := [(0, .inr (.inr (some 999))), (1, .inr (.inr (some 0))), (2, .inr (.inr (some 73))), (3, .inl (x3))]) (st' := [.inl (v101), .inl (v100), .inr (.inr (some 73)), .inl (v99)]) (nc' := 126) (np' := 138) (M' := M) 0 rfl ?_
                                    obtain ⟨v102, hv, h⟩ := ob_i h
                                    refine ev_call (t := 231) (as := [.inr (.inr (some 73)), .inl (v100), .inl (v101)]) (rest := [.inl (v99)]) rfl rfl rfl (by omega) (R_path_e (by omega) (v100) (v101) M _ hv) ?_
                                    refine ev_k (pc' := 569) (ls' := [(0, .inr (.inr (some 999))), (1, .inr (.inr (some 0))), (2, .inr (.inr (some 73))), (3, .inl (x3))]) (st' := [.inl (v102), .inl (v99)]) (nc' := 126) (np' := 138) (M' := M) 0 rfl ?_
                                    obtain ⟨hR, ⟨hc, h⟩ | ⟨hc, h⟩⟩ := c_eq_i h
                                    · refine ev_icmp 1039 rfl hR.1 hR.2 (by decide) (fun _ => ?_) (fun q => absurd hc q)
                                      exact BlazedPathLaw_law_999_n0_1039_t hd   (BlazedPathLaw_law_999_n0_18 L xs   n) ih (x3) M r h
                                    · refine ev_icmp 1039 rfl hR.1 hR.2 (by decide) (fun q => absurd q hc) (fun _ => ?_)
                                      refine ev_k (pc' := 573) (ls' := [(0, .inr (.inr (some 999))), (1, .inr (.inr (some 0))), (2, .inr (.inr (some 73))), (3, .inl (x3))]) (st' := [.inl (0)]) (nc' := 126) (np' := 138) (M' := M) 1 rfl ?_
                                      cases h
                                      exact ev_ret rfl
                                  · skip
                                    rcases if_i h with ⟨hq, h⟩ | ⟨hq15, h⟩
                                    · refine ev_tsw 574 rfl hR (541) (Or.inr ⟨by rw [hq]; decide, by rw [hq]; rfl⟩) (by decide) ?_
                                      refine ev_k (pc' := 579) (ls' := [(0, .inr (.inr (some 999))), (1, .inr (.inr (some 0))), (2, .inr (.inr (some 73))), (3, .inl (x3))]) (st' := [.inl ((x3) + (1)), .inr (.inr (some 999)), .inr (.inr (some 0))]) (nc' := 126) (np' := 138) (M' := M) 5 rfl ?_
                                      obtain ⟨hc, h⟩ := ck_i h
                                      obtain ⟨v103, ev, h⟩ := tw_i h
                                      refine ev_sld rfl rfl hc ev ?_
                                      refine ev_k (pc' := 584) (ls' := [(0, .inr (.inr (some 999))), (1, .inr (.inr (some 0))), (2, .inr (.inr (some 73))), (3, .inl (x3))]) (st' := [.inl ((x3) + (2)), .inr (.inr (some 999)), .inl (v103), .inr (.inr (some 0))]) (nc' := 126) (np' := 138) (M' := M) 4 rfl ?_
                                      obtain ⟨hc, h⟩ := ck_i h
                                      obtain ⟨v104, ev, h⟩ := tw_i h
                                      refine ev_sld rfl rfl hc ev ?_
                                      refine ev_k (pc' := 585) (ls' := [(0, .inr (.inr (some 999))), (1, .inr (.inr (some 0))), (2, .inr (.inr (some 73))), (3, .inl (x3))]) (st' := [.inl (v104), .inl (v103), .inr (.inr (some 0))]) (nc' := 126) (np' := 138) (M' := M) 0 rfl ?_
                                      obtain ⟨v105, M106, hv, h⟩ := oc_i h
                                      refine ev_call (t := 131) (as := [.inr (.inr (some 0)), .inl (v103), .inl (v104)]) (rest := []) rfl rfl rfl (by omega) (P_turn_e (by omega) (v103) (v104) M _ hv) ?_
                                      refine ev_k (pc' := 593) (ls' := [(0, .inr (.inr (some 999))), (1, .inr (.inr (some 0))), (2, .inr (.inr (some 73))), (3, .inl (x3))]) (st' := [.inl ((x3) + (1)), .inr (.inr (some 999)), .inr (.inr (some 73)), .inl (v105)]) (nc' := 126) (np' := 138) (M' := M106) 5 rfl ?_
                                      obtain ⟨hc, h⟩ := ck_i h
                                      obtain ⟨v107, ev, h⟩ := tw_i h
                                      refine ev_sld rfl rfl hc ev ?_
                                      refine ev_k (pc' := 598) (ls' := [(0, .inr (.inr (some 999))), (1, .inr (.inr (some 0))), (2, .inr (.inr (some 73))), (3, .inl (x3))]) (st' := [.inl ((x3) + (2)), .inr (.inr (some 999)), .inl (v107), .inr (.inr (some 73)), .inl (v105)]) (nc' := 126) (np' := 138) (M' := M106) 4 rfl ?_
                                      obtain ⟨hc, h⟩ := ck_i h
                                      obtain ⟨v108, ev, h⟩ := tw_i h
                                      refine ev_sld rfl rfl hc ev ?_
                                      refine ev_k (pc' := 599) (ls' := [(0, .inr (.inr (some 999))), (1, .inr (.inr (some 0))), (2, .inr (.inr (some 73))), (3, .inl (x3))]) (st' := [.inl (v108), .inl (v107), .inr (.inr (some 73)), .inl (v105)]) (nc' := 126) (np' := 138) (M' := M106) 0 rfl ?_
                                      obtain ⟨v109, M110, hv, h⟩ := oc_i h
                                      refine ev_call (t := 276) (as := [.inr (.inr (some 73)), .inl (v107), .inl (v108)]) (rest := [.inl (v105)]) rfl rfl rfl (by omega) (R_turn_e (by omega) (v107) (v108) M106 _ hv) ?_
                                      refine ev_k (pc' := 602) (ls' := [(0, .inr (.inr (some 999))), (1, .inr (.inr (some 0))), (2, .inr (.inr (some 73))), (3, .inl (x3))]) (st' := [.inl (v109), .inl (v105)]) (nc' := 126) (np' := 138) (M' := M110) 0 rfl ?_
                                      obtain ⟨hR, ⟨hc, h⟩ | ⟨hc, h⟩⟩ := c_eq_i h
                                      · refine ev_icmp 1039 rfl hR.1 hR.2 (by decide) (fun _ => ?_) (fun q => absurd hc q)
                                        exact BlazedPathLaw_law_999_n0_1039_t hd   (BlazedPathLaw_law_999_n0_18 L xs   n) ih (x3) M110 r h
                                      · refine ev_icmp 1039 rfl hR.1 hR.2 (by decide) (fun q => absurd q hc) (fun _ => ?_)
                                        refine ev_k (pc' := 606) (ls' := [(0, .inr (.inr (some 999))), (1, .inr (.inr (some 0))), (2, .inr (.inr (some 73))), (3, .inl (x3))]) (st' := [.inl (0)]) (nc' := 126) (np' := 138) (M' := M110) 1 rfl ?_
                                        cases h
                                        exact ev_ret rfl
                                    · skip
                                      rcases if_i h with ⟨hq, h⟩ | ⟨hq16, h⟩
                                      · refine ev_tsw 607 rfl hR (574) (Or.inr ⟨by rw [hq]; decide, by rw [hq]; rfl⟩) (by decide) ?_
                                        refine ev_k (pc' := 612) (ls' := [(0, .inr (.inr (some 999))), (1, .inr (.inr (some 0))), (2, .inr (.inr (some 73))), (3, .inl (x3))]) (st' := [.inl ((x3) + (1)), .inr (.inr (some 999)), .inr (.inr (some 0))]) (nc' := 126) (np' := 138) (M' := M) 5 rfl ?_
                                        obtain ⟨hc, h⟩ := ck_i h
                                        obtain ⟨v111, ev, h⟩ := tw_i h
                                        refine ev_sld rfl rfl hc ev ?_
                                        refine ev_k (pc' := 617) (ls' := [(0, .inr (.inr (some 999))), (1, .inr (.inr (some 0))), (2, .inr (.inr (some 73))), (3, .inl (x3))]) (st' := [.inl ((x3) + (2)), .inr (.inr (some 999)), .inl (v111), .inr (.inr (some 0))]) (nc' := 126) (np' := 138) (M' := M) 4 rfl ?_
                                        obtain ⟨hc, h⟩ := ck_i h
                                        obtain ⟨v112, ev, h⟩ := tw_i h
                                        refine ev_sld rfl rfl hc ev ?_
                                        refine ev_k (pc' := 622) (ls' := [(0, .inr (.inr (some 999))), (1, .inr (.inr (some 0))), (2, .inr (.inr (some 73))), (3, .inl (x3))]) (st' := [.inl ((x3) + (3)), .inr (.inr (some 999)), .inl (v112), .inl (v111), .inr (.inr (some 0))]) (nc' := 126) (np' := 138) (M' := M) 4 rfl ?_
                                        obtain ⟨hc, h⟩ := ck_i h
                                        obtain ⟨v113, ev, h⟩ := tw_i h
                                        refine ev_sld rfl rfl hc ev ?_
                                        refine ev_k (pc' := 623) (ls' := [(0, .inr (.inr (some 999))), (1, .inr (.inr (some 0))), (2, .inr (.inr (some 73))), (3, .inl (x3))]) (st' := [.inl (v113), .inl (v112), .inl (v111), .inr (.inr (some 0))]) (nc' := 126) (np' := 138) (M' := M) 0 rfl ?_
                                        obtain ⟨v114, M115, hv, h⟩ := oc_i h
                                        refine ev_call (t := 134) (as := [.inr (.inr (some 0)), .inl (v111), .inl (v112), .inl (v113)]) (rest := []) rfl rfl rfl (by omega) (P_soonest_e (by omega) (v111) (v112) (v113) M _ hv) ?_
                                        refine ev_k (pc' := 631) (ls' := [(0, .inr (.inr (some 999))), (1, .inr (.inr (some 0))), (2, .inr (.inr (some 73))), (3, .inl (x3))]) (st' := [.inl ((x3) + (1)), .inr (.inr (some 999)), .inr (.inr (some 73)), .inl (v114)]) (nc' := 126) (np' := 138) (M' := M115) 5 rfl ?_
                                        obtain ⟨hc, h⟩ := ck_i h
                                        obtain ⟨v116, ev, h⟩ := tw_i h
                                        refine ev_sld rfl rfl hc ev ?_
                                        refine ev_k (pc' := 636) (ls' := [(0, .inr (.inr (some 999))), (1, .inr (.inr (some 0))), (2, .inr (.inr (some 73))), (3, .inl (x3))]) (st' := [.inl ((x3) + (2)), .inr (.inr (some 999)), .inl (v116), .inr (.inr (some 73)), .inl (v114)]) (nc' := 126) (np' := 138) (M' := M115) 4 rfl ?_
                                        obtain ⟨hc, h⟩ := ck_i h
                                        obtain ⟨v117, ev, h⟩ := tw_i h
                                        refine ev_sld rfl rfl hc ev ?_
                                        refine ev_k (pc' := 641) (ls' := [(0, .inr (.inr (some 999))), (1, .inr (.inr (some 0))), (2, .inr (.inr (some 73))), (3, .inl (x3))]) (st' := [.inl ((x3) + (3)), .inr (.inr (some 999)), .inl (v117), .inl (v116), .inr (.inr (some 73)), .inl (v114)]) (nc' := 126) (np' := 138) (M' := M115) 4 rfl ?_
                                        obtain ⟨hc, h⟩ := ck_i h
                                        obtain ⟨v118, ev, h⟩ := tw_i h
                                        refine ev_sld rfl rfl hc ev ?_
                                        refine ev_k (pc' := 642) (ls' := [(0, .inr (.inr (some 999))), (1, .inr (.inr (some 0))), (2, .inr (.inr (some 73))), (3, .inl (x3))]) (st' := [.inl (v118), .inl (v117), .inl (v116), .inr (.inr (some 73)), .inl (v114)]) (nc' := 126) (np' := 138) (M' := M115) 0 rfl ?_
                                        obtain ⟨v119, M120, hv, h⟩ := oc_i h
                                        refine ev_call (t := 277) (as := [.inr (.inr (some 73)), .inl (v116), .inl (v117), .inl (v118)]) (rest := [.inl (v114)]) rfl rfl rfl (by omega) (R_soonest_e (by omega) (v116) (v117) (v118) M115 _ hv) ?_
                                        refine ev_k (pc' := 645) (ls' := [(0, .inr (.inr (some 999))), (1, .inr (.inr (some 0))), (2, .inr (.inr (some 73))), (3, .inl (x3))]) (st' := [.inl (v119), .inl (v114)]) (nc' := 126) (np' := 138) (M' := M120) 0 rfl ?_
                                        obtain ⟨hR, ⟨hc, h⟩ | ⟨hc, h⟩⟩ := c_eq_i h
                                        · refine ev_icmp 1039 rfl hR.1 hR.2 (by decide) (fun _ => ?_) (fun q => absurd hc q)
                                          exact BlazedPathLaw_law_999_n0_1039_t hd   (BlazedPathLaw_law_999_n0_18 L xs   n) ih (x3) M120 r h
                                        · refine ev_icmp 1039 rfl hR.1 hR.2 (by decide) (fun q => absurd q hc) (fun _ => ?_)
                                          refine ev_k (pc' := 649) (ls' := [(0, .inr (.inr (some 999))), (1, .inr (.inr (some 0))), (2, .inr (.inr (some 73))), (3, .inl (x3))]) (st' := [.inl (0)]) (nc' := 126) (np' := 138) (M' := M120) 1 rfl ?_
                                          cases h
                                          exact ev_ret rfl
                                      · skip
                                        rcases if_i h with ⟨hq, h⟩ | ⟨hq17, h⟩
                                        · refine ev_tsw 650 rfl hR (617) (Or.inr ⟨by rw [hq]; decide, by rw [hq]; rfl⟩) (by decide) ?_
                                          refine ev_k (pc' := 655) (ls' := [(0, .inr (.inr (some 999))), (1, .inr (.inr (some 0))), (2, .inr (.inr (some 73))), (3, .inl (x3))]) (st' := [.inl ((x3) + (1)), .inr (.inr (some 999)), .inr (.inr (some 0))]) (nc' := 126) (np' := 138) (M' := M) 5 rfl ?_
                                          obtain ⟨hc, h⟩ := ck_i h
                                          obtain ⟨v121, ev, h⟩ := tw_i h
                                          refine ev_sld rfl rfl hc ev ?_
                                          refine ev_k (pc' := 656) (ls' := [(0, .inr (.inr (some 999))), (1, .inr (.inr (some 0))), (2, .inr (.inr (some 73))), (3, .inl (x3))]) (st' := [.inl (v121), .inr (.inr (some 0))]) (nc' := 126) (np' := 138) (M' := M) 0 rfl ?_
                                          obtain ⟨v122, M123, hv, h⟩ := oc_i h
                                          refine ev_call (t := 142) (as := [.inr (.inr (some 0)), .inl (v121)]) (rest := []) rfl rfl rfl (by omega) (P_camp_e (by omega) (v121) M _ hv) ?_
                                          refine ev_k (pc' := 664) (ls' := [(0, .inr (.inr (some 999))), (1, .inr (.inr (some 0))), (2, .inr (.inr (some 73))), (3, .inl (x3))]) (st' := [.inl ((x3) + (1)), .inr (.inr (some 999)), .inr (.inr (some 73)), .inl (v122)]) (nc' := 126) (np' := 138) (M' := M123) 5 rfl ?_
                                          obtain ⟨hc, h⟩ := ck_i h
                                          obtain ⟨v124, ev, h⟩ := tw_i h
                                          refine ev_sld rfl rfl hc ev ?_
                                          refine ev_k (pc' := 665) (ls' := [(0, .inr (.inr (some 999))), (1, .inr (.inr (some 0))), (2, .inr (.inr (some 73))), (3, .inl (x3))]) (st' := [.inl (v124), .inr (.inr (some 73)), .inl (v122)]) (nc' := 126) (np' := 138) (M' := M123) 0 rfl ?_
                                          obtain ⟨v125, M126, hv, h⟩ := oc_i h
                                          refine ev_call (t := 280) (as := [.inr (.inr (some 73)), .inl (v124)]) (rest := [.inl (v122)]) rfl rfl rfl (by omega) (R_camp_e (by omega) (v124) M123 _ hv) ?_
                                          refine ev_k (pc' := 668) (ls' := [(0, .inr (.inr (some 999))), (1, .inr (.inr (some 0))), (2, .inr (.inr (some 73))), (3, .inl (x3))]) (st' := [.inl (v125), .inl (v122)]) (nc' := 126) (np' := 138) (M' := M126) 0 rfl ?_
                                          obtain ⟨hR, ⟨hc, h⟩ | ⟨hc, h⟩⟩ := c_eq_i h
                                          · refine ev_icmp 1039 rfl hR.1 hR.2 (by decide) (fun _ => ?_) (fun q => absurd hc q)
                                            exact BlazedPathLaw_law_999_n0_1039_t hd   (BlazedPathLaw_law_999_n0_18 L xs   n) ih (x3) M126 r h
                                          · refine ev_icmp 1039 rfl hR.1 hR.2 (by decide) (fun q => absurd q hc) (fun _ => ?_)
                                            refine ev_k (pc' := 672) (ls' := [(0, .inr (.inr (some 999))), (1, .inr (.inr (some 0))), (2, .inr (.inr (some 73))), (3, .inl (x3))]) (st' := [.inl (0)]) (nc' := 126) (np' := 138) (M' := M126) 1 rfl ?_
                                            cases h
                                            exact ev_ret rfl
                                        · skip
                                          rcases if_i h with ⟨hq, h⟩ | ⟨hq18, h⟩
                                          · refine ev_tsw 673 rfl hR (640) (Or.inr ⟨by rw [hq]; decide, by rw [hq]; rfl⟩) (by decide) ?_
                                            refine ev_k (pc' := 678) (ls' := [(0, .inr (.inr (some 999))), (1, .inr (.inr (some 0))), (2, .inr (.inr (some 73))), (3, .inl (x3))]) (st' := [.inl ((x3) + (1)), .inr (.inr (some 999)), .inr (.inr (some 0))]) (nc' := 126) (np' := 138) (M' := M) 5 rfl ?_
                                            obtain ⟨hc, h⟩ := ck_i h
                                            obtain ⟨v127, ev, h⟩ := tw_i h
                                            refine ev_sld rfl rfl hc ev ?_
                                            refine ev_k (pc' := 683) (ls' := [(0, .inr (.inr (some 999))), (1, .inr (.inr (some 0))), (2, .inr (.inr (some 73))), (3, .inl (x3))]) (st' := [.inl ((x3) + (2)), .inr (.inr (some 999)), .inl (v127), .inr (.inr (some 0))]) (nc' := 126) (np' := 138) (M' := M) 4 rfl ?_
                                            obtain ⟨hc, h⟩ := ck_i h
                                            obtain ⟨v128, ev, h⟩ := tw_i h
                                            refine ev_sld rfl rfl hc ev ?_
                                            refine ev_k (pc' := 688) (ls' := [(0, .inr (.inr (some 999))), (1, .inr (.inr (some 0))), (2, .inr (.inr (some 73))), (3, .inl (x3))]) (st' := [.inl ((x3) + (3)), .inr (.inr (some 999)), .inl (v128), .inl (v127), .inr (.inr (some 0))]) (nc' := 126) (np' := 138) (M' := M) 4 rfl ?_
                                            obtain ⟨hc, h⟩ := ck_i h
                                            obtain ⟨v129, ev, h⟩ := tw_i h
                                            refine ev_sld rfl rfl hc ev ?_
                                            refine ev_k (pc' := 689) (ls' := [(0, .inr (.inr (some 999))), (1, .inr (.inr (some 0))), (2, .inr (.inr (some 73))), (3, .inl (x3))]) (st' := [.inl (v129), .inl (v128), .inl (v127), .inr (.inr (some 0))]) (nc' := 126) (np' := 138) (M' := M) 0 rfl ?_
                                            obtain ⟨v130, M131, hv, h⟩ := oc_i h
                                            refine ev_call (t := 146) (as := [.inr (.inr (some 0)), .inl (v127), .inl (v128), .inl (v129)]) (rest := []) rfl rfl rfl (by omega) (P_byTurns_e (by omega) (v127) (v128) (v129) M _ hv) ?_
                                            refine ev_k (pc' := 697) (ls' := [(0, .inr (.inr (some 999))), (1, .inr (.inr (some 0))), (2, .inr (.inr (some 73))), (3, .inl (x3))]) (st' := [.inl ((x3) + (1)), .inr (.inr (some 999)), .inr (.inr (some 73)), .inl (v130)]) (nc' := 126) (np' := 138) (M' := M131) 5 rfl ?_
                                            obtain ⟨hc, h⟩ := ck_i h
                                            obtain ⟨v132, ev, h⟩ := tw_i h
                                            refine ev_sld rfl rfl hc ev ?_
                                            refine ev_k (pc' := 702) (ls' := [(0, .inr (.inr (some 999))), (1, .inr (.inr (some 0))), (2, .inr (.inr (some 73))), (3, .inl (x3))]) (st' := [.inl ((x3) + (2)), .inr (.inr (some 999)), .inl (v132), .inr (.inr (some 73)), .inl (v130)]) (nc' := 126) (np' := 138) (M' := M131) 4 rfl ?_
                                            obtain ⟨hc, h⟩ := ck_i h
                                            obtain ⟨v133, ev, h⟩ := tw_i h
                                            refine ev_sld rfl rfl hc ev ?_
                                            refine ev_k (pc' := 707) (ls' := [(0, .inr (.inr (some 999))), (1, .inr (.inr (some 0))), (2, .inr (.inr (some 73))), (3, .inl (x3))]) (st' := [.inl ((x3) + (3)), .inr (.inr (some 999)), .inl (v133), .inl (v132), .inr (.inr (some 73)), .inl (v130)]) (nc' := 126) (np' := 138) (M' := M131) 4 rfl ?_
                                            obtain ⟨hc, h⟩ := ck_i h
                                            obtain ⟨v134, ev, h⟩ := tw_i h
                                            refine ev_sld rfl rfl hc ev ?_
                                            refine ev_k (pc' := 708) (ls' := [(0, .inr (.inr (some 999))), (1, .inr (.inr (some 0))), (2, .inr (.inr (some 73))), (3, .inl (x3))]) (st' := [.inl (v134), .inl (v133), .inl (v132), .inr (.inr (some 73)), .inl (v130)]) (nc' := 126) (np' := 138) (M' := M131) 0 rfl ?_
                                            obtain ⟨v135, M136, hv, h⟩ := oc_i h
                                            refine ev_call (t := 282) (as := [.inr (.inr (some 73)), .inl (v132), .inl (v133), .inl (v134)]) (rest := [.inl (v130)]) rfl rfl rfl (by omega) (R_byTurns_e (by omega) (v132) (v133) (v134) M131 _ hv) ?_
                                            refine ev_k (pc' := 711) (ls' := [(0, .inr (.inr (some 999))), (1, .inr (.inr (some 0))), (2, .inr (.inr (some 73))), (3, .inl (x3))]) (st' := [.inl (v135), .inl (v130)]) (nc' := 126) (np' := 138) (M' := M136) 0 rfl ?_
                                            obtain ⟨hR, ⟨hc, h⟩ | ⟨hc, h⟩⟩ := c_eq_i h
                                            · refine ev_icmp 1039 rfl hR.1 hR.2 (by decide) (fun _ => ?_) (fun q => absurd hc q)
                                              exact BlazedPathLaw_law_999_n0_1039_t hd   (BlazedPathLaw_law_999_n0_18 L xs   n) ih (x3) M136 r h
                                            · refine ev_icmp 1039 rfl hR.1 hR.2 (by decide) (fun q => absurd q hc) (fun _ => ?_)
                                              refine ev_k (pc' := 715) (ls' := [(0, .inr (.inr (some 999))), (1, .inr (.inr (some 0))), (2, .inr (.inr (some 73))), (3, .inl (x3))]) (st' := [.inl (0)]) (nc' := 126) (np' := 138) (M' := M136) 1 rfl ?_
                                              cases h
                                              exact ev_ret rfl
                                          · skip
                                            rcases if_i h with ⟨hq, h⟩ | ⟨hq19, h⟩
                                            · refine ev_tsw 716 rfl hR (683) (Or.inr ⟨by rw [hq]; decide, by rw [hq]; rfl⟩) (by decide) ?_
                                              refine ev_k (pc' := 721) (ls' := [(0, .inr (.inr (some 999))), (1, .inr (.inr (some 0))), (2, .inr (.inr (some 73))), (3, .inl (x3))]) (st' := [.inl ((x3) + (1)), .inr (.inr (some 999)), .inr (.inr (some 0))]) (nc' := 126) (np' := 138) (M' := M) 5 rfl ?_
                                              obtain ⟨hc, h⟩ := ck_i h
                                              obtain ⟨v137, ev, h⟩ := tw_i h
                                              refine ev_sld rfl rfl hc ev ?_
                                              refine ev_k (pc' := 726) (ls' := [(0, .inr (.inr (some 999))), (1, .inr (.inr (some 0))), (2, .inr (.inr (some 73))), (3, .inl (x3))]) (st' := [.inl ((x3) + (2)), .inr (.inr (some 999)), .inl (v137), .inr (.inr (some 0))]) (nc' := 126) (np' := 138) (M' := M) 4 rfl ?_
                                              obtain ⟨hc, h⟩ := ck_i h
                                              obtain ⟨v138, ev, h⟩ := tw_i h
                                              refine ev_sld rfl rfl hc ev ?_
                                              refine ev_k (pc' := 731) (ls' := [(0, .inr (.inr (some 999))), (1, .inr (.inr (some 0))), (2, .inr (.inr (some 73))), (3, .inl (x3))]) (st' := [.inl ((x3) + (3)), .inr (.inr (some 999)), .inl (v138), .inl (v137), .inr (.inr (some 0))]) (nc' := 126) (np' := 138) (M' := M) 4 rfl ?_
                                              obtain ⟨hc, h⟩ := ck_i h
                                              obtain ⟨v139, ev, h⟩ := tw_i h
                                              refine ev_sld rfl rfl hc ev ?_
                                              refine ev_k (pc' := 736) (ls' := [(0, .inr (.inr (some 999))), (1, .inr (.inr (some 0))), (2, .inr (.inr (some 73))), (3, .inl (x3))]) (st' := [.inl ((x3) + (4)), .inr (.inr (some 999)), .inl (v139), .inl (v138), .inl (v137), .inr (.inr (some 0))]) (nc' := 126) (np' := 138) (M' := M) 4 rfl ?_
                                              obtain ⟨hc, h⟩ := ck_i h
                                              obtain ⟨v140, ev, h⟩ := tw_i h
                                              refine ev_sld rfl rfl hc ev ?_
                                              refine ev_k (pc' := 737) (ls' := [(0, .inr (.inr (some 999))), (1, .inr (.inr (some 0))), (2, .inr (.inr (some 73))), (3, .inl (x3))]) (st' := [.inl (v140), .inl (v139), .inl (v138), .inl (v137), .inr (.inr (some 0))]) (nc' := 126) (np' := 138) (M' := M) 0 rfl ?_
                                              obtain ⟨v141, M142, hv, h⟩ := oc_i h
                                              refine ev_call (t := 157) (as := [.inr (.inr (some 0)), .inl (v137), .inl (v138), .inl (v139), .inl (v140)]) (rest := []) rfl rfl rfl (by omega) (P_planned_e (by omega) (v137) (v138) (v139) (v140) M _ hv) ?_
                                              refine ev_k (pc' := 745) (ls' := [(0, .inr (.inr (some 999))), (1, .inr (.inr (some 0))), (2, .inr (.inr (some 73))), (3, .inl (x3))]) (st' := [.inl ((x3) + (1)), .inr (.inr (some 999)), .inr (.inr (some 73)), .inl (v141)]) (nc' := 126) (np' := 138) (M' := M142) 5 rfl ?_
                                              obtain ⟨hc, h⟩ := ck_i h
                                              obtain ⟨v143, ev, h⟩ := tw_i h
                                              refine ev_sld rfl rfl hc ev ?_
                                              refine ev_k (pc' := 750) (ls' := [(0, .inr (.inr (some 999))), (1, .inr (.inr (some 0))), (2, .inr (.inr (some 73))), (3, .inl (x3))]) (st' := [.inl ((x3) + (2)), .inr (.inr (some 999)), .inl (v143), .inr (.inr (some 73)), .inl (v141)]) (nc' := 126) (np' := 138) (M' := M142) 4 rfl ?_
                                              obtain ⟨hc, h⟩ := ck_i h
                                              obtain ⟨v144, ev, h⟩ := tw_i h
                                              refine ev_sld rfl rfl hc ev ?_
                                              refine ev_k (pc' := 755) (ls' := [(0, .inr (.inr (some 999))), (1, .inr (.inr (some 0))), (2, .inr (.inr (some 73))), (3, .inl (x3))]) (st' := [.inl ((x3) + (3)), .inr (.inr (some 999)), .inl (v144), .inl (v143), .inr (.inr (some 73)), .inl (v141)]) (nc' := 126) (np' := 138) (M' := M142) 4 rfl ?_
                                              obtain ⟨hc, h⟩ := ck_i h
                                              obtain ⟨v145, ev, h⟩ := tw_i h
                                              refine ev_sld rfl rfl hc ev ?_
                                              refine ev_k (pc' := 760) (ls' := [(0, .inr (.inr (some 999))), (1, .inr (.inr (some 0))), (2, .inr (.inr (some 73))), (3, .inl (x3))]) (st' := [.inl ((x3) + (4)), .inr (.inr (some 999)), .inl (v145), .inl (v144), .inl (v143), .inr (.inr (some 73)), .inl (v141)]) (nc' := 126) (np' := 138) (M' := M142) 4 rfl ?_
                                              obtain ⟨hc, h⟩ := ck_i h
                                              obtain ⟨v146, ev, h⟩ := tw_i h
                                              refine ev_sld rfl rfl hc ev ?_
                                              refine ev_k (pc' := 761) (ls' := [(0, .inr (.inr (some 999))), (1, .inr (.inr (some 0))), (2, .inr (.inr (some 73))), (3, .inl (x3))]) (st' := [.inl (v146), .inl (v145), .inl (v144), .inl (v143), .inr (.inr (some 73)), .inl (v141)]) (nc' := 126) (np' := 138) (M' := M142) 0 rfl ?_
                                              obtain ⟨v147, M148, hv, h⟩ := oc_i h
                                              refine ev_call (t := 290) (as := [.inr (.inr (some 73)), .inl (v143), .inl (v144), .inl (v145), .inl (v146)]) (rest := [.inl (v141)]) rfl rfl rfl (by omega) (R_planned_e (by omega) (v143) (v144) (v145) (v146) M142 _ hv) ?_
                                              refine ev_k (pc' := 764) (ls' := [(0, .inr (.inr (some 999))), (1, .inr (.inr (some 0))), (2, .inr (.inr (some 73))), (3, .inl (x3))]) (st' := [.inl (v147), .inl (v141)]) (nc' := 126) (np' := 138) (M' := M148) 0 rfl ?_
                                              obtain ⟨hR, ⟨hc, h⟩ | ⟨hc, h⟩⟩ := c_eq_i h
                                              · refine ev_icmp 1039 rfl hR.1 hR.2 (by decide) (fun _ => ?_) (fun q => absurd hc q)
                                                exact BlazedPathLaw_law_999_n0_1039_t hd   (BlazedPathLaw_law_999_n0_18 L xs   n) ih (x3) M148 r h
                                              · refine ev_icmp 1039 rfl hR.1 hR.2 (by decide) (fun q => absurd q hc) (fun _ => ?_)
                                                refine ev_k (pc' := 768) (ls' := [(0, .inr (.inr (some 999))), (1, .inr (.inr (some 0))), (2, .inr (.inr (some 73))), (3, .inl (x3))]) (st' := [.inl (0)]) (nc' := 126) (np' := 138) (M' := M148) 1 rfl ?_
                                                cases h
                                                exact ev_ret rfl
                                            · skip
                                              rcases if_i h with ⟨hq, h⟩ | ⟨hq20, h⟩
                                              · refine ev_tsw 769 rfl hR (736) (Or.inr ⟨by rw [hq]; decide, by rw [hq]; rfl⟩) (by decide) ?_
                                                refine ev_k (pc' := 774) (ls' := [(0, .inr (.inr (some 999))), (1, .inr (.inr (some 0))), (2, .inr (.inr (some 73))), (3, .inl (x3))]) (st' := [.inl ((x3) + (1)), .inr (.inr (some 999)), .inr (.inr (some 0))]) (nc' := 126) (np' := 138) (M' := M) 5 rfl ?_
                                                obtain ⟨hc, h⟩ := ck_i h
                                                obtain ⟨v149, ev, h⟩ := tw_i h
                                                refine ev_sld rfl rfl hc ev ?_
                                                refine ev_k (pc' := 779) (ls' := [(0, .inr (.inr (some 999))), (1, .inr (.inr (some 0))), (2, .inr (.inr (some 73))), (3, .inl (x3))]) (st' := [.inl ((x3) + (2)), .inr (.inr (some 999)), .inl (v149), .inr (.inr (some 0))]) (nc' := 126) (np' := 138) (M' := M) 4 rfl ?_
                                                obtain ⟨hc, h⟩ := ck_i h
                                                obtain ⟨v150, ev, h⟩ := tw_i h
                                                refine ev_sld rfl rfl hc ev ?_
                                                refine ev_k (pc' := 784) (ls' := [(0, .inr (.inr (some 999))), (1, .inr (.inr (some 0))), (2, .inr (.inr (some 73))), (3, .inl (x3))]) (st' := [.inl ((x3) + (3)), .inr (.inr (some 999)), .inl (v150), .inl (v149), .inr (.inr (some 0))]) (nc' := 126) (np' := 138) (M' := M) 4 rfl ?_
                                                obtain ⟨hc, h⟩ := ck_i h
                                                obtain ⟨v151, ev, h⟩ := tw_i h
                                                refine ev_sld rfl rfl hc ev ?_
                                                refine ev_k (pc' := 785) (ls' := [(0, .inr (.inr (some 999))), (1, .inr (.inr (some 0))), (2, .inr (.inr (some 73))), (3, .inl (x3))]) (st' := [.inl (v151), .inl (v150), .inl (v149), .inr (.inr (some 0))]) (nc' := 126) (np' := 138) (M' := M) 0 rfl ?_
                                                obtain ⟨v152, M153, hv, h⟩ := oc_i h
                                                refine ev_call (t := 160) (as := [.inr (.inr (some 0)), .inl (v149), .inl (v150), .inl (v151)]) (rest := []) rfl rfl rfl (by omega) (P_paces_e (by omega) (v149) (v150) (v151) M _ hv) ?_
                                                refine ev_k (pc' := 793) (ls' := [(0, .inr (.inr (some 999))), (1, .inr (.inr (some 0))), (2, .inr (.inr (some 73))), (3, .inl (x3))]) (st' := [.inl ((x3) + (1)), .inr (.inr (some 999)), .inr (.inr (some 73)), .inl (v152)]) (nc' := 126) (np' := 138) (M' := M153) 5 rfl ?_
                                                obtain ⟨hc, h⟩ := ck_i h
                                                obtain ⟨v154, ev, h⟩ := tw_i h
                                                refine ev_sld rfl rfl hc ev ?_
                                                refine ev_k (pc' := 798) (ls' := [(0, .inr (.inr (some 999))), (1, .inr (.inr (some 0))), (2, .inr (.inr (some 73))), (3, .inl (x3))]) (st' := [.inl ((x3) + (2)), .inr (.inr (some 999)), .inl (v154), .inr (.inr (some 73)), .inl (v152)]) (nc' := 126) (np' := 138) (M' := M153) 4 rfl ?_
                                                obtain ⟨hc, h⟩ := ck_i h
                                                obtain ⟨v155, ev, h⟩ := tw_i h
                                                refine ev_sld rfl rfl hc ev ?_
                                                refine ev_k (pc' := 803) (ls' := [(0, .inr (.inr (some 999))), (1, .inr (.inr (some 0))), (2, .inr (.inr (some 73))), (3, .inl (x3))]) (st' := [.inl ((x3) + (3)), .inr (.inr (some 999)), .inl (v155), .inl (v154), .inr (.inr (some 73)), .inl (v152)]) (nc' := 126) (np' := 138) (M' := M153) 4 rfl ?_
                                                obtain ⟨hc, h⟩ := ck_i h
                                                obtain ⟨v156, ev, h⟩ := tw_i h
                                                refine ev_sld rfl rfl hc ev ?_
                                                refine ev_k (pc' := 804) (ls' := [(0, .inr (.inr (some 999))), (1, .inr (.inr (some 0))), (2, .inr (.inr (some 73))), (3, .inl (x3))]) (st' := [.inl (v156), .inl (v155), .inl (v154), .inr (.inr (some 73)), .inl (v152)]) (nc' := 126) (np' := 138) (M' := M153) 0 rfl ?_
                                                obtain ⟨v157, M158, hv, h⟩ := oc_i h
                                                refine ev_call (t := 292) (as := [.inr (.inr (some 73)), .inl (v154), .inl (v155), .inl (v156)]) (rest := [.inl (v152)]) rfl rfl rfl (by omega) (R_paces_e (by omega) (v154) (v155) (v156) M153 _ hv) ?_
                                                refine ev_k (pc' := 807) (ls' := [(0, .inr (.inr (some 999))), (1, .inr (.inr (some 0))), (2, .inr (.inr (some 73))), (3, .inl (x3))]) (st' := [.inl (v157), .inl (v152)]) (nc' := 126) (np' := 138) (M' := M158) 0 rfl ?_
                                                obtain ⟨hR, ⟨hc, h⟩ | ⟨hc, h⟩⟩ := c_eq_i h
                                                · refine ev_icmp 1039 rfl hR.1 hR.2 (by decide) (fun _ => ?_) (fun q => absurd hc q)
                                                  exact BlazedPathLaw_law_999_n0_1039_t hd   (BlazedPathLaw_law_999_n0_18 L xs   n) ih (x3) M158 r h
                                                · refine ev_icmp 1039 rfl hR.1 hR.2 (by decide) (fun q => absurd q hc) (fun _ => ?_)
                                                  refine ev_k (pc' := 811) (ls' := [(0, .inr (.inr (some 999))), (1, .inr (.inr (some 0))), (2, .inr (.inr (some 73))), (3, .inl (x3))]) (st' := [.inl (0)]) (nc' := 126) (np' := 138) (M' := M158) 1 rfl ?_
                                                  cases h
                                                  exact ev_ret rfl
                                              · skip
                                                rcases if_i h with ⟨hq, h⟩ | ⟨hq21, h⟩
                                                · refine ev_tsw 812 rfl hR (779) (Or.inr ⟨by rw [hq]; decide, by rw [hq]; rfl⟩) (by decide) ?_
                                                  refine ev_k (pc' := 817) (ls' := [(0, .inr (.inr (some 999))), (1, .inr (.inr (some 0))), (2, .inr (.inr (some 73))), (3, .inl (x3))]) (st' := [.inl ((x3) + (1)), .inr (.inr (some 999)), .inr (.inr (some 0))]) (nc' := 126) (np' := 138) (M' := M) 5 rfl ?_
                                                  obtain ⟨hc, h⟩ := ck_i h
                                                  obtain ⟨v159, ev, h⟩ := tw_i h
                                                  refine ev_sld rfl rfl hc ev ?_
                                                  refine ev_k (pc' := 822) (ls' := [(0, .inr (.inr (some 999))), (1, .inr (.inr (some 0))), (2, .inr (.inr (some 73))), (3, .inl (x3))]) (st' := [.inl ((x3) + (2)), .inr (.inr (some 999)), .inl (v159), .inr (.inr (some 0))]) (nc' := 126) (np' := 138) (M' := M) 4 rfl ?_
                                                  obtain ⟨hc, h⟩ := ck_i h
                                                  obtain ⟨v160, ev, h⟩ := tw_i h
                                                  refine ev_sld rfl rfl hc ev ?_
                                                  refine ev_k (pc' := 823) (ls' := [(0, .inr (.inr (some 999))), (1, .inr (.inr (some 0))), (2, .inr (.inr (some 73))), (3, .inl (x3))]) (st' := [.inl (v160), .inl (v159), .inr (.inr (some 0))]) (nc' := 126) (np' := 138) (M' := M) 0 rfl ?_
                                                  obtain ⟨v161, M162, hv, h⟩ := oc_i h
                                                  refine ev_call (t := 164) (as := [.inr (.inr (some 0)), .inl (v159), .inl (v160)]) (rest := []) rfl rfl rfl (by omega) (P_seek_e (by omega) (v159) (v160) M _ hv) ?_
                                                  refine ev_k (pc' := 831) (ls' := [(0, .inr (.inr (some 999))), (1, .inr (.inr (some 0))), (2, .inr (.inr (some 73))), (3, .inl (x3))]) (st' := [.inl ((x3) + (1)), .inr (.inr (some 999)), .inr (.inr (some 73)), .inl (v161)]) (nc' := 126) (np' := 138) (M' := M162) 5 rfl ?_
                                                  obtain ⟨hc, h⟩ := ck_i h
                                                  obtain ⟨v163, ev, h⟩ := tw_i h
                                                  refine ev_sld rfl rfl hc ev ?_
                                                  refine ev_k (pc' := 836) (ls' := [(0, .inr (.inr (some 999))), (1, .inr (.inr (some 0))), (2, .inr (.inr (some 73))), (3, .inl (x3))]) (st' := [.inl ((x3) + (2)), .inr (.inr (some 999)), .inl (v163), .inr (.inr (some 73)), .inl (v161)]) (nc' := 126) (np' := 138) (M' := M162) 4 rfl ?_
                                                  obtain ⟨hc, h⟩ := ck_i h
                                                  obtain ⟨v164, ev, h⟩ := tw_i h
                                                  refine ev_sld rfl rfl hc ev ?_
                                                  refine ev_k (pc' := 837) (ls' := [(0, .inr (.inr (some 999))), (1, .inr (.inr (some 0))), (2, .inr (.inr (some 73))), (3, .inl (x3))]) (st' := [.inl (v164), .inl (v163), .inr (.inr (some 73)), .inl (v161)]) (nc' := 126) (np' := 138) (M' := M162) 0 rfl ?_
                                                  obtain ⟨v165, M166, hv, h⟩ := oc_i h
                                                  refine ev_call (t := 294) (as := [.inr (.inr (some 73)), .inl (v163), .inl (v164)]) (rest := [.inl (v161)]) rfl rfl rfl (by omega) (R_seek_e (by omega) (v163) (v164) M162 _ hv) ?_
                                                  refine ev_k (pc' := 840) (ls' := [(0, .inr (.inr (some 999))), (1, .inr (.inr (some 0))), (2, .inr (.inr (some 73))), (3, .inl (x3))]) (st' := [.inl (v165), .inl (v161)]) (nc' := 126) (np' := 138) (M' := M166) 0 rfl ?_
                                                  obtain ⟨hR, ⟨hc, h⟩ | ⟨hc, h⟩⟩ := c_eq_i h
                                                  · refine ev_icmp 1039 rfl hR.1 hR.2 (by decide) (fun _ => ?_) (fun q => absurd hc q)
                                                    exact BlazedPathLaw_law_999_n0_1039_t hd   (BlazedPathLaw_law_999_n0_18 L xs   n) ih (x3) M166 r h
                                                  · refine ev_icmp 1039 rfl hR.1 hR.2 (by decide) (fun q => absurd q hc) (fun _ => ?_)
                                                    refine ev_k (pc' := 844) (ls' := [(0, .inr (.inr (some 999))), (1, .inr (.inr (some 0))), (2, .inr (.inr (some 73))), (3, .inl (x3))]) (st' := [.inl (0)]) (nc' := 126) (np' := 138) (M' := M166) 1 rfl ?_
                                                    cases h
                                                    exact ev_ret rfl
                                                · skip
                                                  rcases if_i h with ⟨hq, h⟩ | ⟨hq22, h⟩
                                                  · refine ev_tsw 845 rfl hR (812) (Or.inr ⟨by rw [hq]; decide, by rw [hq]; rfl⟩) (by decide) ?_
                                                    refine ev_k (pc' := 850) (ls' := [(0, .inr (.inr (some 999))), (1, .inr (.inr (some 0))), (2, .inr (.inr (some 73))), (3, .inl (x3))]) (st' := [.inl ((x3) + (1)), .inr (.inr (some 999)), .inr (.inr (some 0))]) (nc' := 126) (np' := 138) (M' := M) 5 rfl ?_
                                                    obtain ⟨hc, h⟩ := ck_i h
                                                    obtain ⟨v167, ev, h⟩ := tw_i h
                                                    refine ev_sld rfl rfl hc ev ?_
                                                    refine ev_k (pc' := 855) (ls' := [(0, .inr (.inr (some 999))), (1, .inr (.inr (some 0))), (2, .inr (.inr (some 73))), (3, .inl (x3))]) (st' := [.inl ((x3) + (2)), .inr (.inr (some 999)), .inl (v167), .inr (.inr (some 0))]) (nc' := 126) (np' := 138) (M' := M) 4 rfl ?_
                                                    obtain ⟨hc, h⟩ := ck_i h
                                                    obtain ⟨v168, ev, h⟩ := tw_i h
                                                    refine ev_sld rfl rfl hc ev ?_
                                                    refine ev_k (pc' := 856) (ls' := [(0, .inr (.inr (some 999))), (1, .inr (.inr (some 0))), (2, .inr (.inr (some 73))), (3, .inl (x3))]) (st' := [.inl (v168), .inl (v167), .inr (.inr (some 0))]) (nc' := 126) (np' := 138) (M' := M) 0 rfl ?_
                                                    obtain ⟨v169, M170, hv, h⟩ := oc_i h
                                                    refine ev_call (t := 171) (as := [.inr (.inr (some 0)), .inl (v167), .inl (v168)]) (rest := []) rfl rfl rfl (by omega) (P_blazes_e (by omega) (v167) (v168) M _ hv) ?_
                                                    refine ev_k (pc' := 864) (ls' := [(0, .inr (.inr (some 999))), (1, .inr (.inr (some 0))), (2, .inr (.inr (some 73))), (3, .inl (x3))]) (st' := [.inl ((x3) + (1)), .inr (.inr (some 999)), .inr (.inr (some 73)), .inl (v169)]) (nc' := 126) (np' := 138) (M' := M170) 5 rfl ?_
                                                    obtain ⟨hc, h⟩ := ck_i h
                                                    obtain ⟨v171, ev, h⟩ := tw_i h
                                                    refine ev_sld rfl rfl hc ev ?_
                                                    refine ev_k (pc' := 869) (ls' := [(0, .inr (.inr (some 999))), (1, .inr (.inr (some 0))), (2, .inr (.inr (some 73))), (3, .inl (x3))]) (st' := [.inl ((x3) + (2)), .inr (.inr (some 999)), .inl (v171), .inr (.inr (some 73)), .inl (v169)]) (nc' := 126) (np' := 138) (M' := M170) 4 rfl ?_
                                                    obtain ⟨hc, h⟩ := ck_i h
                                                    obtain ⟨v172, ev, h⟩ := tw_i h
                                                    refine ev_sld rfl rfl hc ev ?_
                                                    refine ev_k (pc' := 870) (ls' := [(0, .inr (.inr (some 999))), (1, .inr (.inr (some 0))), (2, .inr (.inr (some 73))), (3, .inl (x3))]) (st' := [.inl (v172), .inl (v171), .inr (.inr (some 73)), .inl (v169)]) (nc' := 126) (np' := 138) (M' := M170) 0 rfl ?_
                                                    obtain ⟨v173, M174, hv, h⟩ := oc_i h
                                                    refine ev_call (t := 299) (as := [.inr (.inr (some 73)), .inl (v171), .inl (v172)]) (rest := [.inl (v169)]) rfl rfl rfl (by omega) (R_blazes_e (by omega) (v171) (v172) M170 _ hv) ?_
                                                    refine ev_k (pc' := 873) (ls' := [(0, .inr (.inr (some 999))), (1, .inr (.inr (some 0))), (2, .inr (.inr (some 73))), (3, .inl (x3))]) (st' := [.inl (v173), .inl (v169)]) (nc' := 126) (np' := 138) (M' := M174) 0 rfl ?_
                                                    obtain ⟨hR, ⟨hc, h⟩ | ⟨hc, h⟩⟩ := c_eq_i h
                                                    · refine ev_icmp 1039 rfl hR.1 hR.2 (by decide) (fun _ => ?_) (fun q => absurd hc q)
                                                      exact BlazedPathLaw_law_999_n0_1039_t hd   (BlazedPathLaw_law_999_n0_18 L xs   n) ih (x3) M174 r h
                                                    · refine ev_icmp 1039 rfl hR.1 hR.2 (by decide) (fun q => absurd q hc) (fun _ => ?_)
                                                      refine ev_k (pc' := 877) (ls' := [(0, .inr (.inr (some 999))), (1, .inr (.inr (some 0))), (2, .inr (.inr (some 73))), (3, .inl (x3))]) (st' := [.inl (0)]) (nc' := 126) (np' := 138) (M' := M174) 1 rfl ?_
                                                      cases h
                                                      exact ev_ret rfl
                                                  · skip
                                                    rcases if_i h with ⟨hq, h⟩ | ⟨hq23, h⟩
                                                    · refine ev_tsw 878 rfl hR (845) (Or.inr ⟨by rw [hq]; decide, by rw [hq]; rfl⟩) (by decide) ?_
                                                      refine ev_k (pc' := 883) (ls' := [(0, .inr (.inr (some 999))), (1, .inr (.inr (some 0))), (2, .inr (.inr (some 73))), (3, .inl (x3))]) (st' := [.inl ((x3) + (1)), .inr (.inr (some 999)), .inr (.inr (some 0))]) (nc' := 126) (np' := 138) (M' := M) 5 rfl ?_
                                                      obtain ⟨hc, h⟩ := ck_i h
                                                      obtain ⟨v175, ev, h⟩ := tw_i h
                                                      refine ev_sld rfl rfl hc ev ?_
                                                      refine ev_k (pc' := 888) (ls' := [(0, .inr (.inr (some 999))), (1, .inr (.inr (some 0))), (2, .inr (.inr (some 73))), (3, .inl (x3))]) (st' := [.inl ((x3) + (2)), .inr (.inr (some 999)), .inl (v175), .inr (.inr (some 0))]) (nc' := 126) (np' := 138) (M' := M) 4 rfl ?_
                                                      obtain ⟨hc, h⟩ := ck_i h
                                                      obtain ⟨v176, ev, h⟩ := tw_i h
                                                      refine ev_sld rfl rfl hc ev ?_
                                                      refine ev_k (pc' := 889) (ls' := [(0, .inr (.inr (some 999))), (1, .inr (.inr (some 0))), (2, .inr (.inr (some 73))), (3, .inl (x3))]) (st' := [.inl (v176), .inl (v175), .inr (.inr (some 0))]) (nc' := 126) (np' := 138) (M' := M) 0 rfl ?_
                                                      obtain ⟨v177, M178, hv, h⟩ := oc_i h
                                                      refine ev_call (t := 177) (as := [.inr (.inr (some 0)), .inl (v175), .inl (v176)]) (rest := []) rfl rfl rfl (by omega) (P_sights_e (by omega) (v175) (v176) M _ hv) ?_
                                                      refine ev_k (pc' := 897) (ls' := [(0, .inr (.inr (some 999))), (1, .inr (.inr (some 0))), (2, .inr (.inr (some 73))), (3, .inl (x3))]) (st' := [.inl ((x3) + (1)), .inr (.inr (some 999)), .inr (.inr (some 73)), .inl (v177)]) (nc' := 126) (np' := 138) (M' := M178) 5 rfl ?_
                                                      obtain ⟨hc, h⟩ := ck_i h
                                                      obtain ⟨v179, ev, h⟩ := tw_i h
                                                      refine ev_sld rfl rfl hc ev ?_
                                                      refine ev_k (pc' := 902) (ls' := [(0, .inr (.inr (some 999))), (1, .inr (.inr (some 0))), (2, .inr (.inr (some 73))), (3, .inl (x3))]) (st' := [.inl ((x3) + (2)), .inr (.inr (some 999)), .inl (v179), .inr (.inr (some 73)), .inl (v177)]) (nc' := 126) (np' := 138) (M' := M178) 4 rfl ?_
                                                      obtain ⟨hc, h⟩ := ck_i h
                                                      obtain ⟨v180, ev, h⟩ := tw_i h
                                                      refine ev_sld rfl rfl hc ev ?_
                                                      refine ev_k (pc' := 903) (ls' := [(0, .inr (.inr (some 999))), (1, .inr (.inr (some 0))), (2, .inr (.inr (some 73))), (3, .inl (x3))]) (st' := [.inl (v180), .inl (v179), .inr (.inr (some 73)), .inl (v177)]) (nc' := 126) (np' := 138) (M' := M178) 0 rfl ?_
                                                      obtain ⟨v181, M182, hv, h⟩ := oc_i h
                                                      refine ev_call (t := 304) (as := [.inr (.inr (some 73)), .inl (v179), .inl (v180)]) (rest := [.inl (v177)]) rfl rfl rfl (by omega) (R_sights_e (by omega) (v179) (v180) M178 _ hv) ?_
                                                      refine ev_k (pc' := 906) (ls' := [(0, .inr (.inr (some 999))), (1, .inr (.inr (some 0))), (2, .inr (.inr (some 73))), (3, .inl (x3))]) (st' := [.inl (v181), .inl (v177)]) (nc' := 126) (np' := 138) (M' := M182) 0 rfl ?_
                                                      obtain ⟨hR, ⟨hc, h⟩ | ⟨hc, h⟩⟩ := c_eq_i h
                                                      · refine ev_icmp 1039 rfl hR.1 hR.2 (by decide) (fun _ => ?_) (fun q => absurd hc q)
                                                        exact BlazedPathLaw_law_999_n0_1039_t hd   (BlazedPathLaw_law_999_n0_18 L xs   n) ih (x3) M182 r h
                                                      · refine ev_icmp 1039 rfl hR.1 hR.2 (by decide) (fun q => absurd q hc) (fun _ => ?_)
                                                        refine ev_k (pc' := 910) (ls' := [(0, .inr (.inr (some 999))), (1, .inr (.inr (some 0))), (2, .inr (.inr (some 73))), (3, .inl (x3))]) (st' := [.inl (0)]) (nc' := 126) (np' := 138) (M' := M182) 1 rfl ?_
                                                        cases h
                                                        exact ev_ret rfl
                                                    · skip
                                                      rcases if_i h with ⟨hq, h⟩ | ⟨hq24, h⟩
                                                      · refine ev_tsw 911 rfl hR (878) (Or.inr ⟨by rw [hq]; decide, by rw [hq]; rfl⟩) (by decide) ?_
                                                        refine ev_k (pc' := 916) (ls' := [(0, .inr (.inr (some 999))), (1, .inr (.inr (some 0))), (2, .inr (.inr (some 73))), (3, .inl (x3))]) (st' := [.inl ((x3) + (1)), .inr (.inr (some 999)), .inr (.inr (some 0))]) (nc' := 126) (np' := 138) (M' := M) 5 rfl ?_
                                                        obtain ⟨hc, h⟩ := ck_i h
                                                        obtain ⟨v183, ev, h⟩ := tw_i h
                                                        refine ev_sld rfl rfl hc ev ?_
                                                        refine ev_k (pc' := 921) (ls' := [(0, .inr (.inr (some 999))), (1, .inr (.inr (some 0))), (2, .inr (.inr (some 73))), (3, .inl (x3))]) (st' := [.inl ((x3) + (2)), .inr (.inr (some 999)), .inl (v183), .inr (.inr (some 0))]) (nc' := 126) (np' := 138) (M' := M) 4 rfl ?_
                                                        obtain ⟨hc, h⟩ := ck_i h
                                                        obtain ⟨v184, ev, h⟩ := tw_i h
                                                        refine ev_sld rfl rfl hc ev ?_
                                                        refine ev_k (pc' := 922) (ls' := [(0, .inr (.inr (some 999))), (1, .inr (.inr (some 0))), (2, .inr (.inr (some 73))), (3, .inl (x3))]) (st' := [.inl (v184), .inl (v183), .inr (.inr (some 0))]) (nc' := 126) (np' := 138) (M' := M) 0 rfl ?_
                                                        obtain ⟨v185, hv, h⟩ := ob_i h
                                                        refine ev_call (t := 181) (as := [.inr (.inr (some 0)), .inl (v183), .inl (v184)]) (rest := []) rfl rfl rfl (by omega) (P_personIs_e (by omega) (v183) (v184) M _ hv) ?_
                                                        refine ev_k (pc' := 930) (ls' := [(0, .inr (.inr (some 999))), (1, .inr (.inr (some 0))), (2, .inr (.inr (some 73))), (3, .inl (x3))]) (st' := [.inl ((x3) + (1)), .inr (.inr (some 999)), .inr (.inr (some 73)), .inl (v185)]) (nc' := 126) (np' := 138) (M' := M) 5 rfl ?_
                                                        obtain ⟨hc, h⟩ := ck_i h
                                                        obtain ⟨v186, ev, h⟩ := tw_i h
                                                        refine ev_sld rfl rfl hc ev ?_
                                                        refine ev_k (pc' := 935) (ls' := [(0, .inr (.inr (some 999))), (1, .inr (.inr (some 0))), (2, .inr (.inr (some 73))), (3, .inl (x3))]) (st' := [.inl ((x3) + (2)), .inr (.inr (some 999)), .inl (v186), .inr (.inr (some 73)), .inl (v185)]) (nc' := 126) (np' := 138) (M' := M) 4 rfl ?_
                                                        obtain ⟨hc, h⟩ := ck_i h
                                                        obtain ⟨v187, ev, h⟩ := tw_i h
                                                        refine ev_sld rfl rfl hc ev ?_
                                                        refine ev_k (pc' := 936) (ls' := [(0, .inr (.inr (some 999))), (1, .inr (.inr (some 0))), (2, .inr (.inr (some 73))), (3, .inl (x3))]) (st' := [.inl (v187), .inl (v186), .inr (.inr (some 73)), .inl (v185)]) (nc' := 126) (np' := 138) (M' := M) 0 rfl ?_
                                                        obtain ⟨v188, hv, h⟩ := ob_i h
                                                        refine ev_call (t := 228) (as := [.inr (.inr (some 73)), .inl (v186), .inl (v187)]) (rest := [.inl (v185)]) rfl rfl rfl (by omega) (R_personIs_e (by omega) (v186) (v187) M _ hv) ?_
                                                        refine ev_k (pc' := 939) (ls' := [(0, .inr (.inr (some 999))), (1, .inr (.inr (some 0))), (2, .inr (.inr (some 73))), (3, .inl (x3))]) (st' := [.inl (v188), .inl (v185)]) (nc' := 126) (np' := 138) (M' := M) 0 rfl ?_
                                                        obtain ⟨hR, ⟨hc, h⟩ | ⟨hc, h⟩⟩ := c_eq_i h
                                                        · refine ev_icmp 1039 rfl hR.1 hR.2 (by decide) (fun _ => ?_) (fun q => absurd hc q)
                                                          exact BlazedPathLaw_law_999_n0_1039_t hd   (BlazedPathLaw_law_999_n0_18 L xs   n) ih (x3) M r h
                                                        · refine ev_icmp 1039 rfl hR.1 hR.2 (by decide) (fun q => absurd q hc) (fun _ => ?_)
                                                          refine ev_k (pc' := 943) (ls' := [(0, .inr (.inr (some 999))), (1, .inr (.inr (some 0))), (2, .inr (.inr (some 73))), (3, .inl (x3))]) (st' := [.inl (0)]) (nc' := 126) (np' := 138) (M' := M) 1 rfl ?_
                                                          cases h
                                                          exact ev_ret rfl
                                                      · skip
                                                        rcases if_i h with ⟨hq, h⟩ | ⟨hq25, h⟩
                                                        · refine ev_tsw 944 rfl hR (911) (Or.inr ⟨by rw [hq]; decide, by rw [hq]; rfl⟩) (by decide) ?_
                                                          refine ev_k (pc' := 949) (ls' := [(0, .inr (.inr (some 999))), (1, .inr (.inr (some 0))), (2, .inr (.inr (some 73))), (3, .inl (x3))]) (st' := [.inl ((x3) + (1)), .inr (.inr (some 999)), .inr (.inr (some 0))]) (nc' := 126) (np' := 138) (M' := M) 5 rfl ?_
                                                          obtain ⟨hc, h⟩ := ck_i h
                                                          obtain ⟨v189, ev, h⟩ := tw_i h
                                                          refine ev_sld rfl rfl hc ev ?_
                                                          refine ev_k (pc' := 950) (ls' := [(0, .inr (.inr (some 999))), (1, .inr (.inr (some 0))), (2, .inr (.inr (some 73))), (3, .inl (x3))]) (st' := [.inl (v189), .inr (.inr (some 0))]) (nc' := 126) (np' := 138) (M' := M) 0 rfl ?_
                                                          obtain ⟨v190, M191, hv, h⟩ := oc_i h
                                                          refine ev_call (t := 182) (as := [.inr (.inr (some 0)), .inl (v189)]) (rest := []) rfl rfl rfl (by omega) (P_seed_e (by omega) (v189) M _ hv) ?_
                                                          refine ev_k (pc' := 958) (ls' := [(0, .inr (.inr (some 999))), (1, .inr (.inr (some 0))), (2, .inr (.inr (some 73))), (3, .inl (x3))]) (st' := [.inl ((x3) + (1)), .inr (.inr (some 999)), .inr (.inr (some 73)), .inl (v190)]) (nc' := 126) (np' := 138) (M' := M191) 5 rfl ?_
                                                          obtain ⟨hc, h⟩ := ck_i h
                                                          obtain ⟨v192, ev, h⟩ := tw_i h
                                                          refine ev_sld rfl rfl hc ev ?_
                                                          refine ev_k (pc' := 959) (ls' := [(0, .inr (.inr (some 999))), (1, .inr (.inr (some 0))), (2, .inr (.inr (some 73))), (3, .inl (x3))]) (st' := [.inl (v192), .inr (.inr (some 73)), .inl (v190)]) (nc' := 126) (np' := 138) (M' := M191) 0 rfl ?_
                                                          obtain ⟨v193, M194, hv, h⟩ := oc_i h
                                                          refine ev_call (t := 308) (as := [.inr (.inr (some 73)), .inl (v192)]) (rest := [.inl (v190)]) rfl rfl rfl (by omega) (R_seed_e (by omega) (v192) M191 _ hv) ?_
                                                          refine ev_k (pc' := 962) (ls' := [(0, .inr (.inr (some 999))), (1, .inr (.inr (some 0))), (2, .inr (.inr (some 73))), (3, .inl (x3))]) (st' := [.inl (v193), .inl (v190)]) (nc' := 126) (np' := 138) (M' := M194) 0 rfl ?_
                                                          obtain ⟨hR, ⟨hc, h⟩ | ⟨hc, h⟩⟩ := c_eq_i h
                                                          · refine ev_icmp 1039 rfl hR.1 hR.2 (by decide) (fun _ => ?_) (fun q => absurd hc q)
                                                            exact BlazedPathLaw_law_999_n0_1039_t hd   (BlazedPathLaw_law_999_n0_18 L xs   n) ih (x3) M194 r h
                                                          · refine ev_icmp 1039 rfl hR.1 hR.2 (by decide) (fun q => absurd q hc) (fun _ => ?_)
                                                            refine ev_k (pc' := 966) (ls' := [(0, .inr (.inr (some 999))), (1, .inr (.inr (some 0))), (2, .inr (.inr (some 73))), (3, .inl (x3))]) (st' := [.inl (0)]) (nc' := 126) (np' := 138) (M' := M194) 1 rfl ?_
                                                            cases h
                                                            exact ev_ret rfl
                                                        · skip
                                                          rcases if_i h with ⟨hq, h⟩ | ⟨hq26, h⟩
                                                          · refine ev_tsw 967 rfl hR (934) (Or.inr ⟨by rw [hq]; decide, by rw [hq]; rfl⟩) (by decide) ?_
                                                            refine ev_k (pc' := 968) (ls' := [(0, .inr (.inr (some 999))), (1, .inr (.inr (some 0))), (2, .inr (.inr (some 73))), (3, .inl (x3))]) (st' := [.inr (.inr (some 0))]) (nc' := 126) (np' := 138) (M' := M) 1 rfl ?_
                                                            obtain ⟨v195, M196, hv, h⟩ := oc_i h
                                                            refine ev_call (t := 183) (as := [.inr (.inr (some 0))]) (rest := []) rfl rfl rfl (by omega) (P_keep_e (by omega)  M _ hv) ?_
                                                            refine ev_k (pc' := 972) (ls' := [(0, .inr (.inr (some 999))), (1, .inr (.inr (some 0))), (2, .inr (.inr (some 73))), (3, .inl (x3))]) (st' := [.inr (.inr (some 73)), .inl (v195)]) (nc' := 126) (np' := 138) (M' := M196) 1 rfl ?_
                                                            obtain ⟨v197, M198, hv, h⟩ := oc_i h
                                                            refine ev_call (t := 309) (as := [.inr (.inr (some 73))]) (rest := [.inl (v195)]) rfl rfl rfl (by omega) (R_keep_e (by omega)  M196 _ hv) ?_
                                                            refine ev_k (pc' := 975) (ls' := [(0, .inr (.inr (some 999))), (1, .inr (.inr (some 0))), (2, .inr (.inr (some 73))), (3, .inl (x3))]) (st' := [.inl (v197), .inl (v195)]) (nc' := 126) (np' := 138) (M' := M198) 0 rfl ?_
                                                            obtain ⟨hR, ⟨hc, h⟩ | ⟨hc, h⟩⟩ := c_eq_i h
                                                            · refine ev_icmp 1039 rfl hR.1 hR.2 (by decide) (fun _ => ?_) (fun q => absurd hc q)
                                                              exact BlazedPathLaw_law_999_n0_1039_t hd   (BlazedPathLaw_law_999_n0_18 L xs   n) ih (x3) M198 r h
                                                            · refine ev_icmp 1039 rfl hR.1 hR.2 (by decide) (fun q => absurd q hc) (fun _ => ?_)
                                                              refine ev_k (pc' := 979) (ls' := [(0, .inr (.inr (some 999))), (1, .inr (.inr (some 0))), (2, .inr (.inr (some 73))), (3, .inl (x3))]) (st' := [.inl (0)]) (nc' := 126) (np' := 138) (M' := M198) 1 rfl ?_
                                                              cases h
                                                              exact ev_ret rfl
                                                          · skip
                                                            rcases if_i h with ⟨hq, h⟩ | ⟨hq27, h⟩
                                                            · refine ev_tsw 980 rfl hR (947) (Or.inr ⟨by rw [hq]; decide, by rw [hq]; rfl⟩) (by decide) ?_
                                                              refine ev_k (pc' := 981) (ls' := [(0, .inr (.inr (some 999))), (1, .inr (.inr (some 0))), (2, .inr (.inr (some 73))), (3, .inl (x3))]) (st' := [.inr (.inr (some 0))]) (nc' := 126) (np' := 138) (M' := M) 1 rfl ?_
                                                              obtain ⟨v199, M200, hv, h⟩ := oc_i h
                                                              refine ev_call (t := 184) (as := [.inr (.inr (some 0))]) (rest := []) rfl rfl rfl (by omega) (P_undo_e (by omega)  M _ hv) ?_
                                                              refine ev_k (pc' := 985) (ls' := [(0, .inr (.inr (some 999))), (1, .inr (.inr (some 0))), (2, .inr (.inr (some 73))), (3, .inl (x3))]) (st' := [.inr (.inr (some 73)), .inl (v199)]) (nc' := 126) (np' := 138) (M' := M200) 1 rfl ?_
                                                              obtain ⟨v201, M202, hv, h⟩ := oc_i h
                                                              refine ev_call (t := 310) (as := [.inr (.inr (some 73))]) (rest := [.inl (v199)]) rfl rfl rfl (by omega) (R_undo_e (by omega)  M200 _ hv) ?_
                                                              refine ev_k (pc' := 988) (ls' := [(0, .inr (.inr (some 999))), (1, .inr (.inr (some 0))), (2, .inr (.inr (some 73))), (3, .inl (x3))]) (st' := [.inl (v201), .inl (v199)]) (nc' := 126) (np' := 138) (M' := M202) 0 rfl ?_
                                                              obtain ⟨hR, ⟨hc, h⟩ | ⟨hc, h⟩⟩ := c_eq_i h
                                                              · refine ev_icmp 1039 rfl hR.1 hR.2 (by decide) (fun _ => ?_) (fun q => absurd hc q)
                                                                exact BlazedPathLaw_law_999_n0_1039_t hd   (BlazedPathLaw_law_999_n0_18 L xs   n) ih (x3) M202 r h
                                                              · refine ev_icmp 1039 rfl hR.1 hR.2 (by decide) (fun q => absurd q hc) (fun _ => ?_)
                                                                refine ev_k (pc' := 992) (ls' := [(0, .inr (.inr (some 999))), (1, .inr (.inr (some 0))), (2, .inr (.inr (some 73))), (3, .inl (x3))]) (st' := [.inl (0)]) (nc' := 126) (np' := 138) (M' := M202) 1 rfl ?_
                                                                cases h
                                                                exact ev_ret rfl
                                                            · skip
                                                              rcases if_i h with ⟨hq, h⟩ | ⟨hq28, h⟩
                                                              · refine ev_tsw 993 rfl hR (960) (Or.inr ⟨by rw [hq]; decide, by rw [hq]; rfl⟩) (by decide) ?_
                                                                refine ev_k (pc' := 998) (ls' := [(0, .inr (.inr (some 999))), (1, .inr (.inr (some 0))), (2, .inr (.inr (some 73))), (3, .inl (x3))]) (st' := [.inl ((x3) + (1)), .inr (.inr (some 999)), .inr (.inr (some 0))]) (nc' := 126) (np' := 138) (M' := M) 5 rfl ?_
                                                                obtain ⟨hc, h⟩ := ck_i h
                                                                obtain ⟨v203, ev, h⟩ := tw_i h
                                                                refine ev_sld rfl rfl hc ev ?_
                                                                refine ev_k (pc' := 999) (ls' := [(0, .inr (.inr (some 999))), (1, .inr (.inr (some 0))), (2, .inr (.inr (some 73))), (3, .inl (x3))]) (st' := [.inl (v203), .inr (.inr (some 0))]) (nc' := 126) (np' := 138) (M' := M) 0 rfl ?_
                                                                obtain ⟨v204, M205, hv, h⟩ := oc_i h
                                                                refine ev_call (t := 185) (as := [.inr (.inr (some 0)), .inl (v203)]) (rest := []) rfl rfl rfl (by omega) (P_check_e (by omega) (v203) M _ hv) ?_
                                                                refine ev_k (pc' := 1007) (ls' := [(0, .inr (.inr (some 999))), (1, .inr (.inr (some 0))), (2, .inr (.inr (some 73))), (3, .inl (x3))]) (st' := [.inl ((x3) + (1)), .inr (.inr (some 999)), .inr (.inr (some 73)), .inl (v204)]) (nc' := 126) (np' := 138) (M' := M205) 5 rfl ?_
                                                                obtain ⟨hc, h⟩ := ck_i h
                                                                obtain ⟨v206, ev, h⟩ := tw_i h
                                                                refine ev_sld rfl rfl hc ev ?_
                                                                refine ev_k (pc' := 1008) (ls' := [(0, .inr (.inr (some 999))), (1, .inr (.inr (some 0))), (2, .inr (.inr (some 73))), (3, .inl (x3))]) (st' := [.inl (v206), .inr (.inr (some 73)), .inl (v204)]) (nc' := 126) (np' := 138) (M' := M205) 0 rfl ?_
                                                                obtain ⟨v207, M208, hv, h⟩ := oc_i h
                                                                refine ev_call (t := 311) (as := [.inr (.inr (some 73)), .inl (v206)]) (rest := [.inl (v204)]) rfl rfl rfl (by omega) (R_check_e (by omega) (v206) M205 _ hv) ?_
                                                                refine ev_k (pc' := 1011) (ls' := [(0, .inr (.inr (some 999))), (1, .inr (.inr (some 0))), (2, .inr (.inr (some 73))), (3, .inl (x3))]) (st' := [.inl (v207), .inl (v204)]) (nc' := 126) (np' := 138) (M' := M208) 0 rfl ?_
                                                                obtain ⟨hR, ⟨hc, h⟩ | ⟨hc, h⟩⟩ := c_eq_i h
                                                                · refine ev_icmp 1039 rfl hR.1 hR.2 (by decide) (fun _ => ?_) (fun q => absurd hc q)
                                                                  exact BlazedPathLaw_law_999_n0_1039_t hd   (BlazedPathLaw_law_999_n0_18 L xs   n) ih (x3) M208 r h
                                                                · refine ev_icmp 1039 rfl hR.1 hR.2 (by decide) (fun q => absurd q hc) (fun _ => ?_)
                                                                  refine ev_k (pc' := 1015) (ls' := [(0, .inr (.inr (some 999))), (1, .inr (.inr (some 0))), (2, .inr (.inr (some 73))), (3, .inl (x3))]) (st' := [.inl (0)]) (nc' := 126) (np' := 138) (M' := M208) 1 rfl ?_
                                                                  cases h
                                                                  exact ev_ret rfl
                                                              · skip
                                                                rcases if_i h with ⟨hq, h⟩ | ⟨hq29, h⟩
                                                                · refine ev_tsw 1016 rfl hR (983) (Or.inr ⟨by rw [hq]; decide, by rw [hq]; rfl⟩) (by decide) ?_
                                                                  refine ev_k (pc' := 1021) (ls' := [(0, .inr (.inr (some 999))), (1, .inr (.inr (some 0))), (2, .inr (.inr (some 73))), (3, .inl (x3))]) (st' := [.inl ((x3) + (1)), .inr (.inr (some 999)), .inr (.inr (some 0))]) (nc' := 126) (np' := 138) (M' := M) 5 rfl ?_
                                                                  obtain ⟨hc, h⟩ := ck_i h
                                                                  obtain ⟨v209, ev, h⟩ := tw_i h
                                                                  refine ev_sld rfl rfl hc ev ?_
                                                                  refine ev_k (pc' := 1022) (ls' := [(0, .inr (.inr (some 999))), (1, .inr (.inr (some 0))), (2, .inr (.inr (some 73))), (3, .inl (x3))]) (st' := [.inl (v209), .inr (.inr (some 0))]) (nc' := 126) (np' := 138) (M' := M) 0 rfl ?_
                                                                  obtain ⟨v210, hv, h⟩ := ob_i h
                                                                  refine ev_call (t := 186) (as := [.inr (.inr (some 0)), .inl (v209)]) (rest := []) rfl rfl rfl (by omega) (P_count_e (by omega) (v209) M _ hv) ?_
                                                                  refine ev_k (pc' := 1030) (ls' := [(0, .inr (.inr (some 999))), (1, .inr (.inr (some 0))), (2, .inr (.inr (some 73))), (3, .inl (x3))]) (st' := [.inl ((x3) + (1)), .inr (.inr (some 999)), .inr (.inr (some 73)), .inl (v210)]) (nc' := 126) (np' := 138) (M' := M) 5 rfl ?_
                                                                  obtain ⟨hc, h⟩ := ck_i h
                                                                  obtain ⟨v211, ev, h⟩ := tw_i h
                                                                  refine ev_sld rfl rfl hc ev ?_
                                                                  refine ev_k (pc' := 1031) (ls' := [(0, .inr (.inr (some 999))), (1, .inr (.inr (some 0))), (2, .inr (.inr (some 73))), (3, .inl (x3))]) (st' := [.inl (v211), .inr (.inr (some 73)), .inl (v210)]) (nc' := 126) (np' := 138) (M' := M) 0 rfl ?_
                                                                  obtain ⟨v212, hv, h⟩ := ob_i h
                                                                  refine ev_call (t := 312) (as := [.inr (.inr (some 73)), .inl (v211)]) (rest := [.inl (v210)]) rfl rfl rfl (by omega) (R_count_e (by omega) (v211) M _ hv) ?_
                                                                  refine ev_k (pc' := 1034) (ls' := [(0, .inr (.inr (some 999))), (1, .inr (.inr (some 0))), (2, .inr (.inr (some 73))), (3, .inl (x3))]) (st' := [.inl (v212), .inl (v210)]) (nc' := 126) (np' := 138) (M' := M) 0 rfl ?_
                                                                  obtain ⟨hR, ⟨hc, h⟩ | ⟨hc, h⟩⟩ := c_eq_i h
                                                                  · refine ev_icmp 1039 rfl hR.1 hR.2 (by decide) (fun _ => ?_) (fun q => absurd hc q)
                                                                    exact BlazedPathLaw_law_999_n0_1039_t hd   (BlazedPathLaw_law_999_n0_18 L xs   n) ih (x3) M r h
                                                                  · refine ev_icmp 1039 rfl hR.1 hR.2 (by decide) (fun q => absurd q hc) (fun _ => ?_)
                                                                    refine ev_k (pc' := 1038) (ls' := [(0, .inr (.inr (some 999))), (1, .inr (.inr (some 0))), (2, .inr (.inr (some 73))), (3, .inl (x3))]) (st' := [.inl (0)]) (nc' := 126) (np' := 138) (M' := M) 1 rfl ?_
                                                                    cases h
                                                                    exact ev_ret rfl
                                                                · skip
                                                                  have hho : ((b_and (v1) (31)) < 0 ∨ 29 < (b_and (v1) (31))) ∨ ((b_and (v1) (31)) = 0 ∨ (b_and (v1) (31)) = 1 ∨ (b_and (v1) (31)) = 2 ∨ (b_and (v1) (31)) = 3 ∨ (b_and (v1) (31)) = 4 ∨ (b_and (v1) (31)) = 5 ∨ (b_and (v1) (31)) = 6 ∨ (b_and (v1) (31)) = 7 ∨ (b_and (v1) (31)) = 8 ∨ (b_and (v1) (31)) = 9 ∨ (b_and (v1) (31)) = 10 ∨ (b_and (v1) (31)) = 11 ∨ (b_and (v1) (31)) = 12 ∨ (b_and (v1) (31)) = 13 ∨ (b_and (v1) (31)) = 14 ∨ (b_and (v1) (31)) = 15 ∨ (b_and (v1) (31)) = 16 ∨ (b_and (v1) (31)) = 17 ∨ (b_and (v1) (31)) = 18 ∨ (b_and (v1) (31)) = 19 ∨ (b_and (v1) (31)) = 20 ∨ (b_and (v1) (31)) = 21 ∨ (b_and (v1) (31)) = 22 ∨ (b_and (v1) (31)) = 23 ∨ (b_and (v1) (31)) = 24 ∨ (b_and (v1) (31)) = 25 ∨ (b_and (v1) (31)) = 26 ∨ (b_and (v1) (31)) = 27 ∨ (b_and (v1) (31)) = 28 ∨ (b_and (v1) (31)) = 29) := by omega
                                                                  refine ev_tsw 1039 rfl hR (1006) ?_ (by decide) ?_
                                                                  · rcases hho with hho | hho
                                                                    · exact Or.inl ⟨hho, rfl⟩
                                                                    · rcases hho with hho | hho | hho | hho | hho | hho | hho | hho | hho | hho | hho | hho | hho | hho | hho | hho | hho | hho | hho | hho | hho | hho | hho | hho | hho | hho | hho | hho | hho | hho
                                                                      · exact absurd hho hq0
                                                                      · exact absurd hho hq1
                                                                      · exact absurd hho hq2
                                                                      · exact absurd hho hq3
                                                                      · exact absurd hho hq4
                                                                      · exact absurd hho hq5
                                                                      · exact absurd hho hq6
                                                                      · exact absurd hho hq7
                                                                      · exact absurd hho hq8
                                                                      · exact absurd hho hq9
                                                                      · exact absurd hho hq10
                                                                      · exact absurd hho hq11
                                                                      · exact absurd hho hq12
                                                                      · exact absurd hho hq13
                                                                      · exact absurd hho hq14
                                                                      · exact absurd hho hq15
                                                                      · exact absurd hho hq16
                                                                      · exact absurd hho hq17
                                                                      · exact absurd hho hq18
                                                                      · exact absurd hho hq19
                                                                      · exact absurd hho hq20
                                                                      · exact absurd hho hq21
                                                                      · exact absurd hho hq22
                                                                      · exact absurd hho hq23
                                                                      · exact absurd hho hq24
                                                                      · exact absurd hho hq25
                                                                      · exact absurd hho hq26
                                                                      · exact absurd hho hq27
                                                                      · exact absurd hho hq28
                                                                      · exact absurd hho hq29
                                                                  · skip
                                                                    exact BlazedPathLaw_law_999_n0_1039_t hd   (BlazedPathLaw_law_999_n0_18 L xs   n) ih (x3) M r h
theorem BlazedPathLaw_law_999_n0_e {L : Nat} {xs : Nat → Int} {d : Nat} (hd : 88 ≤ d)    (M : am_M) (r : Int × am_M) (h : BlazedPathLaw_law_999_n0 L xs   M = some r) : am_Ev L xs d me_313 0 (am_ar1 0 [.inr (.inr (some 999))]) [] 0 0 M (some (.inl r.1), 126, 138, r.2) := by
  refine ev_k (pc' := 3) (ls' := [(0, .inr (.inr (some 999)))]) (st' := [.inr (.inr (some 0))]) (nc' := 1) (np' := 0) (M' := am_zr M 0) 1 rfl ?_
  obtain ⟨M1, eM, h⟩ := nw_i h
  rw [← eM]
  refine ev_k (pc' := 4) (ls' := [(0, .inr (.inr (some 999)))]) (st' := [.inr (.inr (some 0)), .inr (.inr (some 0))]) (nc' := 1) (np' := 0) (M' := M1) 1 rfl ?_
  obtain ⟨M2, hv, h⟩ := ob_i h
  refine ev_call (t := 0) (as := [.inr (.inr (some 0))]) (rest := [.inr (.inr (some 0))]) rfl rfl rfl (by omega) (P_new_n1_e (by omega)  M1 _ hv) ?_
  refine ev_k (pc' := 11) (ls' := [(1, .inr (.inr (some 0))), (0, .inr (.inr (some 999)))]) (st' := [.inr (.inr (some 73))]) (nc' := 74) (np' := 86) (M' := am_zr M2 73) 2 rfl ?_
  obtain ⟨M3, eM, h⟩ := nw_i h
  rw [← eM]
  refine ev_k (pc' := 12) (ls' := [(1, .inr (.inr (some 0))), (0, .inr (.inr (some 999)))]) (st' := [.inr (.inr (some 73)), .inr (.inr (some 73))]) (nc' := 74) (np' := 86) (M' := M3) 1 rfl ?_
  obtain ⟨M4, hv, h⟩ := ob_i h
  refine ev_call (t := 187) (as := [.inr (.inr (some 73))]) (rest := [.inr (.inr (some 73))]) rfl rfl rfl (by omega) (R_new_n74_e (by omega)  M3 _ hv) ?_
  refine ev_k (pc' := 18) (ls' := [(0, .inr (.inr (some 999))), (1, .inr (.inr (some 0))), (2, .inr (.inr (some 73))), (3, .inl (0))]) (st' := []) (nc' := 126) (np' := 138) (M' := M4) 3 rfl ?_
  exact BlazedPathLaw_law_999_n0_18_t hd     am_big (0) M4 r h
