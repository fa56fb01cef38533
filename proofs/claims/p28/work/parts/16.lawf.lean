def aX (L : Nat) (xs : Nat → Int32) (i : Int32) : Option Int32 := if 0 ≤ i.toInt ∧ i.toInt < (L : Int) then some (xs i.toNatClampNeg) else none
def J_L_law_236 (N : Nat) (L : Nat) (xs : Nat → Int32) (again18 : Int32 × zS → Option (Int32 × zS)) (x3 : Int32) (σ : zS) : Option (Int32 × zS) :=
  zl (aX L xs (x3 + 1)) fun v2 =>
  zl (aX L xs (x3 + 2)) fun v3 =>
  zl (aX L xs (x3 + 3)) fun v4 =>
  zl (aX L xs (x3 + 4)) fun v5 =>
  zl (aX L xs (x3 + 5)) fun v6 =>
  zl (gC 11 0) fun _ => zb (f_X11_feed N 0 v2 v3 v4 v5 v6 σ) fun v7 σ8 =>
  zl (aX L xs (x3 + 1)) fun v9 =>
  zl (aX L xs (x3 + 2)) fun v10 =>
  zl (aX L xs (x3 + 3)) fun v11 =>
  zl (aX L xs (x3 + 4)) fun v12 =>
  zl (aX L xs (x3 + 5)) fun v13 =>
  zl (gC 12 218) fun _ => zb (f_X12_feed N 218 v9 v10 v11 v12 v13 σ8) fun v14 σ15 =>
  again18 (x3 + 6, σ15)
def J_L_law_299 (N : Nat) (L : Nat) (xs : Nat → Int32) (again18 : Int32 × zS → Option (Int32 × zS)) (x3 : Int32) (σ : zS) : Option (Int32 × zS) :=
  zl (aX L xs (x3 + 1)) fun v16 =>
  zl (gC 11 0) fun _ => zb (f_X11_end N 0 v16 σ) fun v17 σ18 =>
  zl (aX L xs (x3 + 1)) fun v19 =>
  zl (gC 12 218) fun _ => zb (f_X12_end N 218 v19 σ18) fun v20 σ21 =>
  again18 (x3 + 6, σ21)
def J_L_law_322 (N : Nat) (L : Nat) (xs : Nat → Int32) (again18 : Int32 × zS → Option (Int32 × zS)) (x3 : Int32) (σ : zS) : Option (Int32 × zS) :=
  zl (gC 11 0) fun _ => zb (f_X11_world N 0 σ) fun v22 σ23 =>
  zl (gC 12 218) fun _ => zb (f_X12_world N 218 σ23) fun v24 σ25 =>
  again18 (x3 + 6, σ25)
def J_L_law_335 (N : Nat) (L : Nat) (xs : Nat → Int32) (again18 : Int32 × zS → Option (Int32 × zS)) (x3 : Int32) (σ : zS) : Option (Int32 × zS) :=
  zl (aX L xs (x3 + 1)) fun v26 =>
  zl (gC 11 0) fun _ => zb (f_X11_put N 0 v26 σ) fun v27 σ28 =>
  zl (aX L xs (x3 + 1)) fun v29 =>
  zl (gC 12 218) fun _ => zb (f_X12_put N 218 v29 σ28) fun v30 σ31 =>
  again18 (x3 + 6, σ31)
def J_L_law_358 (N : Nat) (L : Nat) (xs : Nat → Int32) (again18 : Int32 × zS → Option (Int32 × zS)) (x3 : Int32) (σ : zS) : Option (Int32 × zS) :=
  zl (aX L xs (x3 + 1)) fun v32 =>
  zl (gC 11 0) fun _ => zb (f_X11_fault N 0 v32 σ) fun v33 σ34 =>
  zl (aX L xs (x3 + 1)) fun v35 =>
  zl (gC 12 218) fun _ => zb (f_X12_fault N 218 v35 σ34) fun v36 σ37 =>
  again18 (x3 + 6, σ37)
def J_L_law_381 (N : Nat) (L : Nat) (xs : Nat → Int32) (again18 : Int32 × zS → Option (Int32 × zS)) (x3 : Int32) (σ : zS) : Option (Int32 × zS) :=
  zl (aX L xs (x3 + 1)) fun v38 =>
  zl (gC 11 0) fun _ => zb (f_X11_size N 0 v38 σ) fun v39 σ40 =>
  zl (aX L xs (x3 + 1)) fun v41 =>
  zl (gC 12 218) fun _ => zb (f_X12_size N 218 v41 σ40) fun v42 σ43 =>
  again18 (x3 + 6, σ43)
def J_L_law_404 (N : Nat) (L : Nat) (xs : Nat → Int32) (again18 : Int32 × zS → Option (Int32 × zS)) (x3 : Int32) (σ : zS) : Option (Int32 × zS) :=
  zl (aX L xs (x3 + 1)) fun v44 =>
  zl (aX L xs (x3 + 2)) fun v45 =>
  zl (gC 11 0) fun _ => zb (f_X11_has N 0 v44 v45 σ) fun v46 σ47 =>
  zl (aX L xs (x3 + 1)) fun v48 =>
  zl (aX L xs (x3 + 2)) fun v49 =>
  zl (gC 12 218) fun _ => zb (f_X12_has N 218 v48 v49 σ47) fun v50 σ51 =>
  again18 (x3 + 6, σ51)
def J_L_law_437 (N : Nat) (L : Nat) (xs : Nat → Int32) (again18 : Int32 × zS → Option (Int32 × zS)) (x3 : Int32) (σ : zS) : Option (Int32 × zS) :=
  zl (aX L xs (x3 + 1)) fun v52 =>
  zl (aX L xs (x3 + 2)) fun v53 =>
  zl (aX L xs (x3 + 3)) fun v54 =>
  zl (aX L xs (x3 + 4)) fun v55 =>
  zl (gC 11 0) fun _ => zb (f_X11_makes N 0 v52 v53 v54 v55 σ) fun v56 σ57 =>
  zl (aX L xs (x3 + 1)) fun v58 =>
  zl (aX L xs (x3 + 2)) fun v59 =>
  zl (aX L xs (x3 + 3)) fun v60 =>
  zl (aX L xs (x3 + 4)) fun v61 =>
  zl (gC 12 218) fun _ => zb (f_X12_makes N 218 v58 v59 v60 v61 σ57) fun v62 σ63 =>
  again18 (x3 + 6, σ63)
def J_L_law_490 (N : Nat) (L : Nat) (xs : Nat → Int32) (again18 : Int32 × zS → Option (Int32 × zS)) (x3 : Int32) (σ : zS) : Option (Int32 × zS) :=
  zl (aX L xs (x3 + 1)) fun v64 =>
  zl (aX L xs (x3 + 2)) fun v65 =>
  zl (aX L xs (x3 + 3)) fun v66 =>
  zl (gC 11 0) fun _ => zb (f_X11_turn N 0 v64 v65 v66 σ) fun v67 σ68 =>
  zl (aX L xs (x3 + 1)) fun v69 =>
  zl (aX L xs (x3 + 2)) fun v70 =>
  zl (aX L xs (x3 + 3)) fun v71 =>
  zl (gC 12 218) fun _ => zb (f_X12_turn N 218 v69 v70 v71 σ68) fun v72 σ73 =>
  again18 (x3 + 6, σ73)
def J_L_law_557 (N : Nat) (L : Nat) (xs : Nat → Int32) (again18 : Int32 × zS → Option (Int32 × zS)) (x3 : Int32) (y0 : Int32) (y1 : Int32) (y2 : Int32) (y3 : Nat) (σ : zS) : Option (Int32 × zS) :=
  zl (gC 11 y3) fun _ => zb (f_X11_sets N y3 y2 y1 y0 σ) fun v77 σ78 =>
  zl (aX L xs (x3 + 1)) fun v79 =>
  zl (aX L xs (x3 + 2)) fun v80 =>
  zl (aX L xs (x3 + 3)) fun v81 =>
  if v81 = 0 then
    (zl (gC 12 218) fun _ => zb (f_X12_sets N 218 v79 v80 0 σ78) fun v82 σ83 =>
    again18 (x3 + 6, σ83))
  else
    (zl (gC 12 218) fun _ => zb (f_X12_sets N 218 v79 v80 1 σ78) fun v84 σ85 =>
    again18 (x3 + 6, σ85))
def J_L_law_533 (N : Nat) (L : Nat) (xs : Nat → Int32) (again18 : Int32 × zS → Option (Int32 × zS)) (x3 : Int32) (σ : zS) : Option (Int32 × zS) :=
  zl (aX L xs (x3 + 1)) fun v74 =>
  zl (aX L xs (x3 + 2)) fun v75 =>
  zl (aX L xs (x3 + 3)) fun v76 =>
  if v76 = 0 then
    (J_L_law_557 N L xs again18 x3 0 v75 v74 0 σ)
  else
    (J_L_law_557 N L xs again18 x3 1 v75 v74 0 σ)
def J_L_law_592 (N : Nat) (L : Nat) (xs : Nat → Int32) (again18 : Int32 × zS → Option (Int32 × zS)) (x3 : Int32) (σ : zS) : Option (Int32 × zS) :=
  zl (aX L xs (x3 + 1)) fun v86 =>
  zl (aX L xs (x3 + 2)) fun v87 =>
  zl (aX L xs (x3 + 3)) fun v88 =>
  zl (gC 11 0) fun _ => zb (f_X11_change N 0 v86 v87 v88 σ) fun v89 σ90 =>
  zl (aX L xs (x3 + 1)) fun v91 =>
  zl (aX L xs (x3 + 2)) fun v92 =>
  zl (aX L xs (x3 + 3)) fun v93 =>
  zl (gC 12 218) fun _ => zb (f_X12_change N 218 v91 v92 v93 σ90) fun v94 σ95 =>
  again18 (x3 + 6, σ95)
def J_L_law_664 (N : Nat) (L : Nat) (xs : Nat → Int32) (again18 : Int32 × zS → Option (Int32 × zS)) (x3 : Int32) (y0 : Int32) (y1 : Int32) (y2 : Int32) (y3 : Int32) (y4 : Nat) (σ : zS) : Option (Int32 × zS) :=
  zl (gC 11 y4) fun _ => zb (f_X11_half N y4 y3 y2 y1 y0 σ) fun v100 σ101 =>
  zl (aX L xs (x3 + 1)) fun v102 =>
  zl (aX L xs (x3 + 2)) fun v103 =>
  zl (aX L xs (x3 + 3)) fun v104 =>
  zl (aX L xs (x3 + 4)) fun v105 =>
  if v105 = 0 then
    (zl (gC 12 218) fun _ => zb (f_X12_half N 218 v102 v103 v104 0 σ101) fun v106 σ107 =>
    again18 (x3 + 6, σ107))
  else
    (zl (gC 12 218) fun _ => zb (f_X12_half N 218 v102 v103 v104 1 σ101) fun v108 σ109 =>
    again18 (x3 + 6, σ109))
def J_L_law_635 (N : Nat) (L : Nat) (xs : Nat → Int32) (again18 : Int32 × zS → Option (Int32 × zS)) (x3 : Int32) (σ : zS) : Option (Int32 × zS) :=
  zl (aX L xs (x3 + 1)) fun v96 =>
  zl (aX L xs (x3 + 2)) fun v97 =>
  zl (aX L xs (x3 + 3)) fun v98 =>
  zl (aX L xs (x3 + 4)) fun v99 =>
  if v99 = 0 then
    (J_L_law_664 N L xs again18 x3 0 v98 v97 v96 0 σ)
  else
    (J_L_law_664 N L xs again18 x3 1 v98 v97 v96 0 σ)
def J_L_law_704 (N : Nat) (L : Nat) (xs : Nat → Int32) (again18 : Int32 × zS → Option (Int32 × zS)) (x3 : Int32) (σ : zS) : Option (Int32 × zS) :=
  zl (aX L xs (x3 + 1)) fun v110 =>
  zl (aX L xs (x3 + 2)) fun v111 =>
  zl (aX L xs (x3 + 3)) fun v112 =>
  zl (gC 11 0) fun _ => zb (f_X11_level N 0 v110 v111 v112 σ) fun v113 σ114 =>
  zl (aX L xs (x3 + 1)) fun v115 =>
  zl (aX L xs (x3 + 2)) fun v116 =>
  zl (aX L xs (x3 + 3)) fun v117 =>
  zl (gC 12 218) fun _ => zb (f_X12_level N 218 v115 v116 v117 σ114) fun v118 σ119 =>
  again18 (x3 + 6, σ119)
def J_L_law_747 (N : Nat) (L : Nat) (xs : Nat → Int32) (again18 : Int32 × zS → Option (Int32 × zS)) (x3 : Int32) (σ : zS) : Option (Int32 × zS) :=
  zl (aX L xs (x3 + 1)) fun v120 =>
  zl (aX L xs (x3 + 2)) fun v121 =>
  zl (gC 11 0) fun _ => zb (f_X11_nth N 0 v120 v121 σ) fun v122 σ123 =>
  zl (aX L xs (x3 + 1)) fun v124 =>
  zl (aX L xs (x3 + 2)) fun v125 =>
  zl (gC 12 218) fun _ => zb (f_X12_nth N 218 v124 v125 σ123) fun v126 σ127 =>
  again18 (x3 + 6, σ127)
def J_L_law_780 (N : Nat) (L : Nat) (xs : Nat → Int32) (again18 : Int32 × zS → Option (Int32 × zS)) (x3 : Int32) (σ : zS) : Option (Int32 × zS) :=
  zl (aX L xs (x3 + 1)) fun v128 =>
  zl (aX L xs (x3 + 2)) fun v129 =>
  zl (gC 11 0) fun _ => zb (f_X11_rank N 0 v128 v129 σ) fun v130 σ131 =>
  zl (aX L xs (x3 + 1)) fun v132 =>
  zl (aX L xs (x3 + 2)) fun v133 =>
  zl (gC 12 218) fun _ => zb (f_X12_rank_ N 218 v132 v133 σ131) fun v134 σ135 =>
  again18 (x3 + 6, σ135)
def J_L_law_813 (N : Nat) (L : Nat) (xs : Nat → Int32) (again18 : Int32 × zS → Option (Int32 × zS)) (x3 : Int32) (σ : zS) : Option (Int32 × zS) :=
  zl (aX L xs (x3 + 1)) fun v136 =>
  zl (aX L xs (x3 + 2)) fun v137 =>
  zl (gC 11 0) fun _ => zb (f_X11_light N 0 v136 v137 σ) fun v138 σ139 =>
  zl (aX L xs (x3 + 1)) fun v140 =>
  zl (aX L xs (x3 + 2)) fun v141 =>
  zl (gC 12 218) fun _ => zb (f_X12_light N 218 v140 v141 σ139) fun v142 σ143 =>
  again18 (x3 + 6, σ143)
def J_L_law_846 (N : Nat) (L : Nat) (xs : Nat → Int32) (again18 : Int32 × zS → Option (Int32 × zS)) (x3 : Int32) (σ : zS) : Option (Int32 × zS) :=
  zl (aX L xs (x3 + 1)) fun v144 =>
  zl (gC 11 0) fun _ => zb (f_X11_weight N 0 v144 σ) fun v145 σ146 =>
  zl (aX L xs (x3 + 1)) fun v147 =>
  zl (gC 12 218) fun _ => zb (f_X12_weight N 218 v147 σ146) fun v148 σ149 =>
  again18 (x3 + 6, σ149)
def J_L_law_869 (N : Nat) (L : Nat) (xs : Nat → Int32) (again18 : Int32 × zS → Option (Int32 × zS)) (x3 : Int32) (σ : zS) : Option (Int32 × zS) :=
  zl (aX L xs (x3 + 1)) fun v150 =>
  zl (aX L xs (x3 + 2)) fun v151 =>
  zl (gC 11 0) fun _ => zb (f_X11_weigh N 0 v150 v151 σ) fun v152 σ153 =>
  zl (aX L xs (x3 + 1)) fun v154 =>
  zl (aX L xs (x3 + 2)) fun v155 =>
  zl (gC 12 218) fun _ => zb (f_X12_weigh N 218 v154 v155 σ153) fun v156 σ157 =>
  again18 (x3 + 6, σ157)
def J_L_law_902 (N : Nat) (L : Nat) (xs : Nat → Int32) (again18 : Int32 × zS → Option (Int32 × zS)) (x3 : Int32) (σ : zS) : Option (Int32 × zS) :=
  zl (aX L xs (x3 + 1)) fun v158 =>
  zl (aX L xs (x3 + 2)) fun v159 =>
  zl (gC 11 0) fun _ => zb (f_X11_weighs N 0 v158 v159 σ) fun v160 σ161 =>
  zl (aX L xs (x3 + 1)) fun v162 =>
  zl (aX L xs (x3 + 2)) fun v163 =>
  zl (gC 12 218) fun _ => zb (f_X12_weighs N 218 v162 v163 σ161) fun v164 σ165 =>
  again18 (x3 + 6, σ165)
def J_L_law_935 (N : Nat) (L : Nat) (xs : Nat → Int32) (again18 : Int32 × zS → Option (Int32 × zS)) (x3 : Int32) (σ : zS) : Option (Int32 × zS) :=
  zl (aX L xs (x3 + 1)) fun v166 =>
  zl (aX L xs (x3 + 2)) fun v167 =>
  zl (gC 11 0) fun _ => zb (f_X11_each N 0 v166 v167 σ) fun v168 σ169 =>
  zl (aX L xs (x3 + 1)) fun v170 =>
  zl (aX L xs (x3 + 2)) fun v171 =>
  zl (gC 12 218) fun _ => zb (f_X12_each N 218 v170 v171 σ169) fun v172 σ173 =>
  again18 (x3 + 6, σ173)
def J_L_law_968 (N : Nat) (L : Nat) (xs : Nat → Int32) (again18 : Int32 × zS → Option (Int32 × zS)) (x3 : Int32) (σ : zS) : Option (Int32 × zS) :=
  zl (aX L xs (x3 + 1)) fun v174 =>
  zl (aX L xs (x3 + 2)) fun v175 =>
  zl (gC 11 0) fun _ => zb (f_X11_names N 0 v174 v175 σ) fun v176 σ177 =>
  zl (aX L xs (x3 + 1)) fun v178 =>
  zl (aX L xs (x3 + 2)) fun v179 =>
  zl (gC 12 218) fun _ => zb (f_X12_names N 218 v178 v179 σ177) fun v180 σ181 =>
  again18 (x3 + 6, σ181)
def J_L_law_1001 (N : Nat) (L : Nat) (xs : Nat → Int32) (again18 : Int32 × zS → Option (Int32 × zS)) (x3 : Int32) (σ : zS) : Option (Int32 × zS) :=
  zl (aX L xs (x3 + 1)) fun v182 =>
  zl (aX L xs (x3 + 2)) fun v183 =>
  zl (gC 11 0) fun _ => zb (f_X11_draw N 0 v182 v183 σ) fun v184 σ185 =>
  zl (aX L xs (x3 + 1)) fun v186 =>
  zl (aX L xs (x3 + 2)) fun v187 =>
  zl (gC 12 218) fun _ => zb (f_X12_draw N 218 v186 v187 σ185) fun v188 σ189 =>
  again18 (x3 + 6, σ189)
def J_L_law_1034 (N : Nat) (L : Nat) (xs : Nat → Int32) (again18 : Int32 × zS → Option (Int32 × zS)) (x3 : Int32) (σ : zS) : Option (Int32 × zS) :=
  zl (aX L xs (x3 + 1)) fun v190 =>
  zl (aX L xs (x3 + 2)) fun v191 =>
  zl (gC 11 0) fun _ => zb (f_X11_alike N 0 v190 v191 σ) fun v192 σ193 =>
  zl (aX L xs (x3 + 1)) fun v194 =>
  zl (aX L xs (x3 + 2)) fun v195 =>
  zl (gC 12 218) fun _ => zb (f_X12_alike N 218 v194 v195 σ193) fun v196 σ197 =>
  again18 (x3 + 6, σ197)
def J_L_law_1067 (N : Nat) (L : Nat) (xs : Nat → Int32) (again18 : Int32 × zS → Option (Int32 × zS)) (x3 : Int32) (σ : zS) : Option (Int32 × zS) :=
  zl (aX L xs (x3 + 1)) fun v198 =>
  zl (aX L xs (x3 + 2)) fun v199 =>
  zl (gC 11 0) fun _ => zb (f_X11_differ N 0 v198 v199 σ) fun v200 σ201 =>
  zl (aX L xs (x3 + 1)) fun v202 =>
  zl (aX L xs (x3 + 2)) fun v203 =>
  zl (gC 12 218) fun _ => zb (f_X12_differ N 218 v202 v203 σ201) fun v204 σ205 =>
  again18 (x3 + 6, σ205)
def J_L_law_1100 (N : Nat) (L : Nat) (xs : Nat → Int32) (again18 : Int32 × zS → Option (Int32 × zS)) (x3 : Int32) (σ : zS) : Option (Int32 × zS) :=
  zl (aX L xs (x3 + 1)) fun v206 =>
  zl (aX L xs (x3 + 2)) fun v207 =>
  zl (gC 11 0) fun _ => zb (f_X11_within N 0 v206 v207 σ) fun v208 σ209 =>
  zl (aX L xs (x3 + 1)) fun v210 =>
  zl (aX L xs (x3 + 2)) fun v211 =>
  zl (gC 12 218) fun _ => zb (f_X12_within N 218 v210 v211 σ209) fun v212 σ213 =>
  again18 (x3 + 6, σ213)
def J_L_law_1133 (N : Nat) (L : Nat) (xs : Nat → Int32) (again18 : Int32 × zS → Option (Int32 × zS)) (x3 : Int32) (σ : zS) : Option (Int32 × zS) :=
  zl (aX L xs (x3 + 1)) fun v214 =>
  zl (aX L xs (x3 + 2)) fun v215 =>
  zl (gC 11 0) fun _ => zb (f_X11_dual N 0 v214 v215 σ) fun v216 σ217 =>
  zl (aX L xs (x3 + 1)) fun v218 =>
  zl (aX L xs (x3 + 2)) fun v219 =>
  zl (gC 12 218) fun _ => zb (f_X12_dual N 218 v218 v219 σ217) fun v220 σ221 =>
  again18 (x3 + 6, σ221)
def J_L_law_1166 (N : Nat) (L : Nat) (xs : Nat → Int32) (again18 : Int32 × zS → Option (Int32 × zS)) (x3 : Int32) (σ : zS) : Option (Int32 × zS) :=
  zl (aX L xs (x3 + 1)) fun v222 =>
  zl (aX L xs (x3 + 2)) fun v223 =>
  zl (gC 11 0) fun _ => zb (f_X11_apart N 0 v222 v223 σ) fun v224 σ225 =>
  zl (aX L xs (x3 + 1)) fun v226 =>
  zl (aX L xs (x3 + 2)) fun v227 =>
  zl (gC 12 218) fun _ => zb (f_X12_apart N 218 v226 v227 σ225) fun v228 σ229 =>
  if v224 = v228 then
    (again18 (x3 + 6, σ229))
  else
    (some (0, σ229))
def J_L_law_1199 (N : Nat) (L : Nat) (xs : Nat → Int32) (again18 : Int32 × zS → Option (Int32 × zS)) (x3 : Int32) (σ : zS) : Option (Int32 × zS) :=
  zl (aX L xs (x3 + 1)) fun v230 =>
  zl (aX L xs (x3 + 2)) fun v231 =>
  zl (gC 11 0) fun _ => zb (f_X11_packs N 0 v230 v231 σ) fun v232 σ233 =>
  zl (aX L xs (x3 + 1)) fun v234 =>
  zl (aX L xs (x3 + 2)) fun v235 =>
  zl (gC 12 218) fun _ => zb (f_X12_packs N 218 v234 v235 σ233) fun v236 σ237 =>
  again18 (x3 + 6, σ237)
def J_L_law_1232 (N : Nat) (L : Nat) (xs : Nat → Int32) (again18 : Int32 × zS → Option (Int32 × zS)) (x3 : Int32) (σ : zS) : Option (Int32 × zS) :=
  zl (aX L xs (x3 + 1)) fun v238 =>
  zl (gC 11 0) fun _ => zb (f_X11_nodes N 0 v238 σ) fun v239 σ240 =>
  zl (aX L xs (x3 + 1)) fun v241 =>
  zl (gC 12 218) fun _ => zb (f_X12_nodes N 218 v241 σ240) fun v242 σ243 =>
  again18 (x3 + 6, σ243)
def J_L_law_1255 (N : Nat) (L : Nat) (xs : Nat → Int32) (again18 : Int32 × zS → Option (Int32 × zS)) (x3 : Int32) (σ : zS) : Option (Int32 × zS) :=
  zl (gC 11 0) fun _ => zb (f_X11_net N 0 σ) fun v244 σ245 =>
  zl (gC 12 218) fun _ => zb (f_X12_net N 218 σ245) fun v246 σ247 =>
  again18 (x3 + 6, σ247)
def J_L_law_1268 (N : Nat) (L : Nat) (xs : Nat → Int32) (again18 : Int32 × zS → Option (Int32 × zS)) (x3 : Int32) (σ : zS) : Option (Int32 × zS) :=
  zl (aX L xs (x3 + 1)) fun v248 =>
  zl (aX L xs (x3 + 2)) fun v249 =>
  zl (gC 11 0) fun _ => zb (f_X11_wide N 0 v248 v249 σ) fun v250 σ251 =>
  zl (aX L xs (x3 + 1)) fun v252 =>
  zl (aX L xs (x3 + 2)) fun v253 =>
  zl (gC 12 218) fun _ => zb (f_X12_wide N 218 v252 v253 σ251) fun v254 σ255 =>
  again18 (x3 + 6, σ255)
def J_L_law_1301 (N : Nat) (L : Nat) (xs : Nat → Int32) (again18 : Int32 × zS → Option (Int32 × zS)) (x3 : Int32) (σ : zS) : Option (Int32 × zS) :=
  zl (aX L xs (x3 + 1)) fun v256 =>
  zl (gC 11 0) fun _ => zb (f_X11_order N 0 v256 σ) fun v257 σ258 =>
  zl (aX L xs (x3 + 1)) fun v259 =>
  zl (gC 12 218) fun _ => zb (f_X12_order N 218 v259 σ258) fun v260 σ261 =>
  again18 (x3 + 6, σ261)
def J_L_law_1324 (N : Nat) (L : Nat) (xs : Nat → Int32) (again18 : Int32 × zS → Option (Int32 × zS)) (x3 : Int32) (σ : zS) : Option (Int32 × zS) :=
  zl (aX L xs (x3 + 1)) fun v262 =>
  zl (gC 11 0) fun _ => zb (f_X11_swap N 0 v262 σ) fun v263 σ264 =>
  zl (aX L xs (x3 + 1)) fun v265 =>
  zl (gC 12 218) fun _ => zb (f_X12_swap N 218 v265 σ264) fun v266 σ267 =>
  again18 (x3 + 6, σ267)
def J_L_law_1347 (N : Nat) (L : Nat) (xs : Nat → Int32) (again18 : Int32 × zS → Option (Int32 × zS)) (x3 : Int32) (σ : zS) : Option (Int32 × zS) :=
  zl (aX L xs (x3 + 1)) fun v268 =>
  zl (aX L xs (x3 + 2)) fun v269 =>
  zl (gC 11 0) fun _ => zb (f_X11_move N 0 v268 v269 σ) fun v270 σ271 =>
  zl (aX L xs (x3 + 1)) fun v272 =>
  zl (aX L xs (x3 + 2)) fun v273 =>
  zl (gC 12 218) fun _ => zb (f_X12_move N 218 v272 v273 σ271) fun v274 σ275 =>
  again18 (x3 + 6, σ275)
def J_L_law_1380 (N : Nat) (L : Nat) (xs : Nat → Int32) (again18 : Int32 × zS → Option (Int32 × zS)) (x3 : Int32) (σ : zS) : Option (Int32 × zS) :=
  zl (aX L xs (x3 + 1)) fun v276 =>
  zl (aX L xs (x3 + 2)) fun v277 =>
  zl (gC 11 0) fun _ => zb (f_X11_best N 0 v276 v277 σ) fun v278 σ279 =>
  zl (aX L xs (x3 + 1)) fun v280 =>
  zl (aX L xs (x3 + 2)) fun v281 =>
  zl (gC 12 218) fun _ => zb (f_X12_best N 218 v280 v281 σ279) fun v282 σ283 =>
  again18 (x3 + 6, σ283)
def J_L_law_1413 (N : Nat) (L : Nat) (xs : Nat → Int32) (again18 : Int32 × zS → Option (Int32 × zS)) (x3 : Int32) (σ : zS) : Option (Int32 × zS) :=
  zl (aX L xs (x3 + 1)) fun v284 =>
  zl (gC 11 0) fun _ => zb (f_X11_sift N 0 v284 σ) fun v285 σ286 =>
  zl (aX L xs (x3 + 1)) fun v287 =>
  zl (gC 12 218) fun _ => zb (f_X12_sift N 218 v287 σ286) fun v288 σ289 =>
  again18 (x3 + 6, σ289)
def J_L_law_1436 (N : Nat) (L : Nat) (xs : Nat → Int32) (again18 : Int32 × zS → Option (Int32 × zS)) (x3 : Int32) (σ : zS) : Option (Int32 × zS) :=
  zl (aX L xs (x3 + 1)) fun v290 =>
  zl (aX L xs (x3 + 2)) fun v291 =>
  zl (aX L xs (x3 + 3)) fun v292 =>
  zl (gC 11 0) fun _ => zb (f_X11_ways N 0 v290 v291 v292 σ) fun v293 σ294 =>
  zl (aX L xs (x3 + 1)) fun v295 =>
  zl (aX L xs (x3 + 2)) fun v296 =>
  zl (aX L xs (x3 + 3)) fun v297 =>
  zl (gC 12 218) fun _ => zb (f_X12_ways N 218 v295 v296 v297 σ294) fun v298 σ299 =>
  again18 (x3 + 6, σ299)
def J_L_law_1479 (N : Nat) (L : Nat) (xs : Nat → Int32) (again18 : Int32 × zS → Option (Int32 × zS)) (x3 : Int32) (σ : zS) : Option (Int32 × zS) :=
  zl (aX L xs (x3 + 1)) fun v300 =>
  zl (aX L xs (x3 + 2)) fun v301 =>
  zl (gC 11 0) fun _ => zb (f_X11_map N 0 v300 v301 σ) fun v302 σ303 =>
  zl (aX L xs (x3 + 1)) fun v304 =>
  zl (aX L xs (x3 + 2)) fun v305 =>
  zl (gC 12 218) fun _ => zb (f_X12_map N 218 v304 v305 σ303) fun v306 σ307 =>
  again18 (x3 + 6, σ307)
def J_L_law_1512 (N : Nat) (L : Nat) (xs : Nat → Int32) (again18 : Int32 × zS → Option (Int32 × zS)) (x3 : Int32) (σ : zS) : Option (Int32 × zS) :=
  zl (aX L xs (x3 + 1)) fun v308 =>
  zl (aX L xs (x3 + 2)) fun v309 =>
  zl (aX L xs (x3 + 3)) fun v310 =>
  zl (gC 11 0) fun _ => zb (f_X11_cuts N 0 v308 v309 v310 σ) fun v311 σ312 =>
  zl (aX L xs (x3 + 1)) fun v313 =>
  zl (aX L xs (x3 + 2)) fun v314 =>
  zl (aX L xs (x3 + 3)) fun v315 =>
  zl (gC 12 218) fun _ => zb (f_X12_cuts N 218 v313 v314 v315 σ312) fun v316 σ317 =>
  again18 (x3 + 6, σ317)
def J_L_law_1555 (N : Nat) (L : Nat) (xs : Nat → Int32) (again18 : Int32 × zS → Option (Int32 × zS)) (x3 : Int32) (σ : zS) : Option (Int32 × zS) :=
  zl (aX L xs (x3 + 1)) fun v318 =>
  zl (aX L xs (x3 + 2)) fun v319 =>
  zl (gC 11 0) fun _ => zb (f_X11_judge N 0 v318 v319 σ) fun v320 σ321 =>
  zl (aX L xs (x3 + 1)) fun v322 =>
  zl (aX L xs (x3 + 2)) fun v323 =>
  zl (gC 12 218) fun _ => zb (f_X12_judge N 218 v322 v323 σ321) fun v324 σ325 =>
  again18 (x3 + 6, σ325)
def J_L_law_1588 (N : Nat) (L : Nat) (xs : Nat → Int32) (again18 : Int32 × zS → Option (Int32 × zS)) (x3 : Int32) (σ : zS) : Option (Int32 × zS) :=
  zl (aX L xs (x3 + 1)) fun v326 =>
  zl (aX L xs (x3 + 2)) fun v327 =>
  zl (gC 11 0) fun _ => zb (f_X11_takes N 0 v326 v327 σ) fun v328 σ329 =>
  zl (aX L xs (x3 + 1)) fun v330 =>
  zl (aX L xs (x3 + 2)) fun v331 =>
  zl (gC 12 218) fun _ => zb (f_X12_takes_ N 218 v330 v331 σ329) fun v332 σ333 =>
  again18 (x3 + 6, σ333)
def J_L_law_1621 (N : Nat) (L : Nat) (xs : Nat → Int32) (again18 : Int32 × zS → Option (Int32 × zS)) (x3 : Int32) (σ : zS) : Option (Int32 × zS) :=
  zl (aX L xs (x3 + 1)) fun v334 =>
  zl (gC 11 0) fun _ => zb (f_X11_count N 0 v334 σ) fun v335 σ336 =>
  zl (aX L xs (x3 + 1)) fun v337 =>
  zl (gC 12 218) fun _ => zb (f_X12_count N 218 v337 σ336) fun v338 σ339 =>
  again18 (x3 + 6, σ339)
def J_L_law_1644 (N : Nat) (L : Nat) (xs : Nat → Int32) (again18 : Int32 × zS → Option (Int32 × zS)) (x3 : Int32) (σ : zS) : Option (Int32 × zS) :=
  zl (aX L xs (x3 + 1)) fun v340 =>
  zl (gC 11 0) fun _ => zb (f_X11_keep N 0 v340 σ) fun v341 σ342 =>
  zl (aX L xs (x3 + 1)) fun v343 =>
  zl (gC 12 218) fun _ => zb (f_X12_keep N 218 v343 σ342) fun v344 σ345 =>
  again18 (x3 + 6, σ345)
def J_L_law_1667 (N : Nat) (L : Nat) (xs : Nat → Int32) (again18 : Int32 × zS → Option (Int32 × zS)) (x3 : Int32) (σ : zS) : Option (Int32 × zS) :=
  zl (aX L xs (x3 + 1)) fun v346 =>
  zl (gC 11 0) fun _ => zb (f_X11_back N 0 v346 σ) fun v347 σ348 =>
  zl (aX L xs (x3 + 1)) fun v349 =>
  zl (gC 12 218) fun _ => zb (f_X12_back N 218 v349 σ348) fun v350 σ351 =>
  again18 (x3 + 6, σ351)
def J_L_law_1690 (N : Nat) (L : Nat) (xs : Nat → Int32) (again18 : Int32 × zS → Option (Int32 × zS)) (x3 : Int32) (σ : zS) : Option (Int32 × zS) :=
  zl (aX L xs (x3 + 1)) fun v352 =>
  zl (aX L xs (x3 + 2)) fun v353 =>
  zl (aX L xs (x3 + 3)) fun v354 =>
  zl (gC 11 0) fun _ => zb (f_X11_row N 0 v352 v353 v354 σ) fun v355 σ356 =>
  zl (aX L xs (x3 + 1)) fun v357 =>
  zl (aX L xs (x3 + 2)) fun v358 =>
  zl (aX L xs (x3 + 3)) fun v359 =>
  zl (gC 12 218) fun _ => zb (f_X12_row N 218 v357 v358 v359 σ356) fun v360 σ361 =>
  again18 (x3 + 6, σ361)
def J_L_law_1733 (N : Nat) (L : Nat) (xs : Nat → Int32) (again18 : Int32 × zS → Option (Int32 × zS)) (x3 : Int32) (σ : zS) : Option (Int32 × zS) :=
  zl (aX L xs (x3 + 1)) fun v362 =>
  zl (aX L xs (x3 + 2)) fun v363 =>
  zl (aX L xs (x3 + 3)) fun v364 =>
  zl (aX L xs (x3 + 4)) fun v365 =>
  zl (gC 11 0) fun _ => zb (f_X11_write N 0 v362 v363 ((zsl (Int32.toInt64 v364) 32) ||| ((Int32.toInt64 v365) &&& 4294967295)) σ) fun v366 σ367 =>
  zl (aX L xs (x3 + 1)) fun v368 =>
  zl (aX L xs (x3 + 2)) fun v369 =>
  zl (aX L xs (x3 + 3)) fun v370 =>
  zl (aX L xs (x3 + 4)) fun v371 =>
  zl (gC 12 218) fun _ => zb (f_X12_write N 218 v368 v369 ((zsl (Int32.toInt64 v370) 32) ||| ((Int32.toInt64 v371) &&& 4294967295)) σ367) fun v372 σ373 =>
  again18 (x3 + 6, σ373)
def J_L_law_1806 (N : Nat) (L : Nat) (xs : Nat → Int32) (again18 : Int32 × zS → Option (Int32 × zS)) (x3 : Int32) (σ : zS) : Option (Int32 × zS) :=
  zl (aX L xs (x3 + 1)) fun v374 =>
  zl (aX L xs (x3 + 2)) fun v375 =>
  zl (aX L xs (x3 + 3)) fun v376 =>
  zl (aX L xs (x3 + 4)) fun v377 =>
  zl (aX L xs (x3 + 5)) fun v378 =>
  zl (gC 11 0) fun _ => zb (f_X11_paste N 0 v374 v375 v376 v377 v378 σ) fun v379 σ380 =>
  zl (aX L xs (x3 + 1)) fun v381 =>
  zl (aX L xs (x3 + 2)) fun v382 =>
  zl (aX L xs (x3 + 3)) fun v383 =>
  zl (aX L xs (x3 + 4)) fun v384 =>
  zl (aX L xs (x3 + 5)) fun v385 =>
  zl (gC 12 218) fun _ => zb (f_X12_paste N 218 v381 v382 v383 v384 v385 σ380) fun v386 σ387 =>
  again18 (x3 + 6, σ387)
def F_L_law_18 (N : Nat) (L : Nat) (xs : Nat → Int32) (again18 : Int32 × zS → Option (Int32 × zS)) : Int32 × zS → Option (Int32 × zS)
  | (x3, σ) =>
  if ((Int32.ofNat L) - 6) < x3 then
    (some (1, σ))
  else
    (zl (aX L xs x3) fun v1 =>
    if (v1 &&& 63) = 0 then
      (J_L_law_236 N L xs again18 x3 σ)
    else if (v1 &&& 63) = 1 then
      (J_L_law_299 N L xs again18 x3 σ)
    else if (v1 &&& 63) = 2 then
      (J_L_law_322 N L xs again18 x3 σ)
    else if (v1 &&& 63) = 3 then
      (J_L_law_335 N L xs again18 x3 σ)
    else if (v1 &&& 63) = 4 then
      (J_L_law_358 N L xs again18 x3 σ)
    else if (v1 &&& 63) = 5 then
      (J_L_law_381 N L xs again18 x3 σ)
    else if (v1 &&& 63) = 6 then
      (J_L_law_404 N L xs again18 x3 σ)
    else if (v1 &&& 63) = 7 then
      (J_L_law_437 N L xs again18 x3 σ)
    else if (v1 &&& 63) = 8 then
      (J_L_law_490 N L xs again18 x3 σ)
    else if (v1 &&& 63) = 9 then
      (J_L_law_533 N L xs again18 x3 σ)
    else if (v1 &&& 63) = 10 then
      (J_L_law_592 N L xs again18 x3 σ)
    else if (v1 &&& 63) = 11 then
      (J_L_law_635 N L xs again18 x3 σ)
    else if (v1 &&& 63) = 12 then
      (J_L_law_704 N L xs again18 x3 σ)
    else if (v1 &&& 63) = 13 then
      (J_L_law_747 N L xs again18 x3 σ)
    else if (v1 &&& 63) = 14 then
      (J_L_law_780 N L xs again18 x3 σ)
    else if (v1 &&& 63) = 15 then
      (J_L_law_813 N L xs again18 x3 σ)
    else if (v1 &&& 63) = 16 then
      (J_L_law_846 N L xs again18 x3 σ)
    else if (v1 &&& 63) = 17 then
      (J_L_law_869 N L xs again18 x3 σ)
    else if (v1 &&& 63) = 18 then
      (J_L_law_902 N L xs again18 x3 σ)
    else if (v1 &&& 63) = 19 then
      (J_L_law_935 N L xs again18 x3 σ)
    else if (v1 &&& 63) = 20 then
      (J_L_law_968 N L xs again18 x3 σ)
    else if (v1 &&& 63) = 21 then
      (J_L_law_1001 N L xs again18 x3 σ)
    else if (v1 &&& 63) = 22 then
      (J_L_law_1034 N L xs again18 x3 σ)
    else if (v1 &&& 63) = 23 then
      (J_L_law_1067 N L xs again18 x3 σ)
    else if (v1 &&& 63) = 24 then
      (J_L_law_1100 N L xs again18 x3 σ)
    else if (v1 &&& 63) = 25 then
      (J_L_law_1133 N L xs again18 x3 σ)
    else if (v1 &&& 63) = 26 then
      (J_L_law_1166 N L xs again18 x3 σ)
    else if (v1 &&& 63) = 27 then
      (J_L_law_1199 N L xs again18 x3 σ)
    else if (v1 &&& 63) = 28 then
      (J_L_law_1232 N L xs again18 x3 σ)
    else if (v1 &&& 63) = 29 then
      (J_L_law_1255 N L xs again18 x3 σ)
    else if (v1 &&& 63) = 30 then
      (J_L_law_1268 N L xs again18 x3 σ)
    else if (v1 &&& 63) = 31 then
      (J_L_law_1301 N L xs again18 x3 σ)
    else if (v1 &&& 63) = 32 then
      (J_L_law_1324 N L xs again18 x3 σ)
    else if (v1 &&& 63) = 33 then
      (J_L_law_1347 N L xs again18 x3 σ)
    else if (v1 &&& 63) = 34 then
      (J_L_law_1380 N L xs again18 x3 σ)
    else if (v1 &&& 63) = 35 then
      (J_L_law_1413 N L xs again18 x3 σ)
    else if (v1 &&& 63) = 36 then
      (J_L_law_1436 N L xs again18 x3 σ)
    else if (v1 &&& 63) = 37 then
      (J_L_law_1479 N L xs again18 x3 σ)
    else if (v1 &&& 63) = 38 then
      (J_L_law_1512 N L xs again18 x3 σ)
    else if (v1 &&& 63) = 39 then
      (J_L_law_1555 N L xs again18 x3 σ)
    else if (v1 &&& 63) = 40 then
      (J_L_law_1588 N L xs again18 x3 σ)
    else if (v1 &&& 63) = 41 then
      (J_L_law_1621 N L xs again18 x3 σ)
    else if (v1 &&& 63) = 42 then
      (J_L_law_1644 N L xs again18 x3 σ)
    else if (v1 &&& 63) = 43 then
      (J_L_law_1667 N L xs again18 x3 σ)
    else if (v1 &&& 63) = 44 then
      (J_L_law_1690 N L xs again18 x3 σ)
    else if (v1 &&& 63) = 45 then
      (J_L_law_1733 N L xs again18 x3 σ)
    else if (v1 &&& 63) = 46 then
      (J_L_law_1806 N L xs again18 x3 σ)
    else (again18 (x3 + 6, σ)))
def f_L_law (N L : Nat) (xs : Nat → Int32) (σ : zS) : Option (Int32 × zS) := zlp (F_L_law_18 N L xs) N (0, σ)
