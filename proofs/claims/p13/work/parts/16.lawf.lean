def aX (L : Nat) (xs : Nat → Int32) (i : Int32) : Option Int32 := if 0 ≤ i.toInt ∧ i.toInt < (L : Int) then some (xs i.toNatClampNeg) else none
def J_L_law_236 (N : Nat) (L : Nat) (xs : Nat → Int32) (again18 : Int32 × zS → Option (Int32 × zS)) (x3 : Int32) (σ : zS) : Option (Int32 × zS) :=
  zl (aX L xs (x3 + 1)) fun v2 =>
  zl (aX L xs (x3 + 2)) fun v3 =>
  zl (aX L xs (x3 + 3)) fun v4 =>
  zl (aX L xs (x3 + 4)) fun v5 =>
  zl (aX L xs (x3 + 5)) fun v6 =>
  zl (gC 11 0) fun _ => zb (f_X11_feed N 0 v2 v3 v4 v5 v6 σ) fun v7 σ8 =>
  zl (aX L xs (x3 + 1)) fun v9 =>
  zl (aX L xs (x3 + 2)) fun v10 =>
  zl (aX L xs (x3 + 3)) fun v11 =>
  zl (aX L xs (x3 + 4)) fun v12 =>
  zl (aX L xs (x3 + 5)) fun v13 =>
  zl (gC 12 218) fun _ => zb (f_X12_feed N 218 v9 v10 v11 v12 v13 σ8) fun v14 σ15 =>
  again18 (x3 + 6, σ15)
def J_L_law_299 (N : Nat) (L : Nat) (xs : Nat → Int32) (again18 : Int32 × zS → Option (Int32 × zS)) (x3 : Int32) (σ : zS) : Option (Int32 × zS) :=
  zl (aX L xs (x3 + 1)) fun v16 =>
  zl (gC 11 0) fun _ => zb (f_X11_end N 0 v16 σ) fun v17 σ18 =>
  zl (aX L xs (x3 + 1)) fun v19 =>
  zl (gC 12 218) fun _ => zb (f_X12_end N 218 v19 σ18) fun v20 σ21 =>
  again18 (x3 + 6, σ21)
def J_L_law_322 (N : Nat) (L : Nat) (xs : Nat → Int32) (again18 : Int32 × zS → Option (Int32 × zS)) (x3 : Int32) (σ : zS) : Option (Int32 × zS) :=
  zl (gC 11 0) fun _ => zb (f_X11_world N 0 σ) fun v22 σ23 =>
  zl (gC 12 218) fun _ => zb (f_X12_world N 218 σ23) fun v24 σ25 =>
  again18 (x3 + 6, σ25)
def J_L_law_335 (N : Nat) (L : Nat) (xs : Nat → Int32) (again18 : Int32 × zS → Option (Int32 × zS)) (x3 : Int32) (σ : zS) : Option (Int32 × zS) :=
  zl (aX L xs (x3 + 1)) fun v26 =>
  zl (gC 11 0) fun _ => zb (f_X11_put N 0 v26 σ) fun v27 σ28 =>
  zl (aX L xs (x3 + 1)) fun v29 =>
  zl (gC 12 218) fun _ => zb (f_X12_put N 218 v29 σ28) fun v30 σ31 =>
  again18 (x3 + 6, σ31)
def J_L_law_358 (N : Nat) (L : Nat) (xs : Nat → Int32) (again18 : Int32 × zS → Option (Int32 × zS)) (x3 : Int32) (σ : zS) : Option (Int32 × zS) :=
  zl (aX L xs (x3 + 1)) fun v32 =>
  zl (gC 11 0) fun _ => zb (f_X11_fault N 0 v32 σ) fun v33 σ34 =>
  zl (aX L xs (x3 + 1)) fun v35 =>
  zl (gC 12 218) fun _ => zb (f_X12_fault N 218 v35 σ34) fun v36 σ37 =>
  again18 (x3 + 6, σ37)
def J_L_law_381 (N : Nat) (L : Nat) (xs : Nat → Int32) (again18 : Int32 × zS → Option (Int32 × zS)) (x3 : Int32) (σ : zS) : Option (Int32 × zS) :=
  zl (aX L xs (x3 + 1)) fun v38 =>
  zl (gC 11 0) fun _ => zb (f_X11_size N 0 v38 σ) fun v39 σ40 =>
  zl (aX L xs (x3 + 1)) fun v41 =>
  zl (gC 12 218) fun _ => zb (f_X12_size N 218 v41 σ40) fun v42 σ43 =>
  again18 (x3 + 6, σ43)
def J_L_law_404 (N : Nat) (L : Nat) (xs : Nat → Int32) (again18 : Int32 × zS → Option (Int32 × zS)) (x3 : Int32) (σ : zS) : Option (Int32 × zS) :=
  zl (aX L xs (x3 + 1)) fun v44 =>
  zl (aX L xs (x3 + 2)) fun v45 =>
  zl (gC 11 0) fun _ => zb (f_X11_has N 0 v44 v45 σ) fun v46 σ47 =>
  zl (aX L xs (x3 + 1)) fun v48 =>
  zl (aX L xs (x3 + 2)) fun v49 =>
  zl (gC 12 218) fun _ => zb (f_X12_has N 218 v48 v49 σ47) fun v50 σ51 =>
  again18 (x3 + 6, σ51)
def J_L_law_437 (N : Nat) (L : Nat) (xs : Nat → Int32) (again18 : Int32 × zS → Option (Int32 × zS)) (x3 : Int32) (σ : zS) : Option (Int32 × zS) :=
  zl (aX L xs (x3 + 1)) fun v52 =>
  zl (aX L xs (x3 + 2)) fun v53 =>
  zl (aX L xs (x3 + 3)) fun v54 =>
  zl (aX L xs (x3 + 4)) fun v55 =>
  zl (gC 11 0) fun _ => zb (f_X11_makes N 0 v52 v53 v54 v55 σ) fun v56 σ57 =>
  zl (aX L xs (x3 + 1)) fun v58 =>
  zl (aX L xs (x3 + 2)) fun v59 =>
  zl (aX L xs (x3 + 3)) fun v60 =>
  zl (aX L xs (x3 + 4)) fun v61 =>
  zl (gC 12 218) fun _ => zb (f_X12_makes N 218 v58 v59 v60 v61 σ57) fun v62 σ63 =>
  again18 (x3 + 6, σ63)
def J_L_law_490 (N : Nat) (L : Nat) (xs : Nat → Int32) (again18 : Int32 × zS → Option (Int32 × zS)) (x3 : Int32) (σ : zS) : Option (Int32 × zS) :=
  zl (aX L xs (x3 + 1)) fun v64 =>
  zl (aX L xs (x3 + 2)) fun v65 =>
  zl (aX L xs (x3 + 3)) fun v66 =>
  zl (gC 11 0) fun _ => zb (f_X11_turn N 0 v64 v65 v66 σ) fun v67 σ68 =>
  zl (aX L xs (x3 + 1)) fun v69 =>
  zl (aX L xs (x3 + 2)) fun v70 =>
  zl (aX L xs (x3 + 3)) fun v71 =>
  zl (gC 12 218) fun _ => zb (f_X12_turn N 218 v69 v70 v71 σ68) fun v72 σ73 =>
  again18 (x3 + 6, σ73)
def J_L_law_557 (N : Nat) (L : Nat) (xs : Nat → Int32) (again18 : Int32 × zS → Option (Int32 × zS)) (x3 : Int32) (y0 : Int32) (y1 : Int32) (y2 : Int32) (y3 : Nat) (σ : zS) : Option (Int32 × zS) :=
  zl (gC 11 y3) fun _ => zb (f_X11_sets N y3 y2 y1 y0 σ) fun v77 σ78 =>
  zl (aX L xs (x3 + 1)) fun v79 =>
  zl (aX L xs (x3 + 2)) fun v80 =>
  zl (aX L xs (x3 + 3)) fun v81 =>
  if v81 = 0 then
    (zl (gC 12 218) fun _ => zb (f_X12_sets N 218 v79 v80 0 σ78) fun v82 σ83 =>
    again18 (x3 + 6, σ83))
  else
    (zl (gC 12 218) fun _ => zb (f_X12_sets N 218 v79 v80 1 σ78) fun v84 σ85 =>
    again18 (x3 + 6, σ85))
def J_L_law_533 (N : Nat) (L : Nat) (xs : Nat → Int32) (again18 : Int32 × zS → Option (Int32 × zS)) (x3 : Int32) (σ : zS) : Option (Int32 × zS) :=
  zl (aX L xs (x3 + 1)) fun v74 =>
  zl (aX L xs (x3 + 2)) fun v75 =>
  zl (aX L xs (x3 + 3)) fun v76 =>
  if v76 = 0 then
    (J_L_law_557 N L xs again18 x3 0 v75 v74 0 σ)
  else
    (J_L_law_557 N L xs again18 x3 1 v75 v74 0 σ)
def J_L_law_592 (N : Nat) (L : Nat) (xs : Nat → Int32) (again18 : Int32 × zS → Option (Int32 × zS)) (x3 : Int32) (σ : zS) : Option (Int32 × zS) :=
  zl (aX L xs (x3 + 1)) fun v86 =>
  zl (aX L xs (x3 + 2)) fun v87 =>
  zl (aX L xs (x3 + 3)) fun v88 =>
  zl (gC 11 0) fun _ => zb (f_X11_change N 0 v86 v87 v88 σ) fun v89 σ90 =>
  zl (aX L xs (x3 + 1)) fun v91 =>
  zl (aX L xs (x3 + 2)) fun v92 =>
  zl (aX L xs (x3 + 3)) fun v93 =>
  zl (gC 12 218) fun _ => zb (f_X12_change N 218 v91 v92 v93 σ90) fun v94 σ95 =>
  again18 (x3 + 6, σ95)
def J_L_law_696 (N : Nat) (L : Nat) (xs : Nat → Int32) (again18 : Int32 × zS → Option (Int32 × zS)) (x3 : Int32) (y0 : Int32) (y1 : Int32) (y2 : Int32) (y3 : Int32) (y4 : Nat) (y5 : Int32) (σ : zS) : Option (Int32 × zS) :=
  zl (gC 12 y4) fun _ => zb (f_X12_half N y4 y3 y2 y1 y0 σ) fun v106 σ107 =>
  if y5 = v106 then
    (again18 (x3 + 6, σ107))
  else
    (some (0, σ107))
def J_L_law_664 (N : Nat) (L : Nat) (xs : Nat → Int32) (again18 : Int32 × zS → Option (Int32 × zS)) (x3 : Int32) (y0 : Int32) (y1 : Int32) (y2 : Int32) (y3 : Int32) (y4 : Nat) (σ : zS) : Option (Int32 × zS) :=
  zl (gC 11 y4) fun _ => zb (f_X11_half N y4 y3 y2 y1 y0 σ) fun v100 σ101 =>
  zl (aX L xs (x3 + 1)) fun v102 =>
  zl (aX L xs (x3 + 2)) fun v103 =>
  zl (aX L xs (x3 + 3)) fun v104 =>
  zl (aX L xs (x3 + 4)) fun v105 =>
  if v105 = 0 then
    (J_L_law_696 N L xs again18 x3 0 v104 v103 v102 218 v100 σ101)
  else
    (J_L_law_696 N L xs again18 x3 1 v104 v103 v102 218 v100 σ101)
def J_L_law_635 (N : Nat) (L : Nat) (xs : Nat → Int32) (again18 : Int32 × zS → Option (Int32 × zS)) (x3 : Int32) (σ : zS) : Option (Int32 × zS) :=
  zl (aX L xs (x3 + 1)) fun v96 =>
  zl (aX L xs (x3 + 2)) fun v97 =>
  zl (aX L xs (x3 + 3)) fun v98 =>
  zl (aX L xs (x3 + 4)) fun v99 =>
  if v99 = 0 then
    (J_L_law_664 N L xs again18 x3 0 v98 v97 v96 0 σ)
  else
    (J_L_law_664 N L xs again18 x3 1 v98 v97 v96 0 σ)
def J_L_law_704 (N : Nat) (L : Nat) (xs : Nat → Int32) (again18 : Int32 × zS → Option (Int32 × zS)) (x3 : Int32) (σ : zS) : Option (Int32 × zS) :=
  zl (aX L xs (x3 + 1)) fun v108 =>
  zl (aX L xs (x3 + 2)) fun v109 =>
  zl (aX L xs (x3 + 3)) fun v110 =>
  zl (gC 11 0) fun _ => zb (f_X11_level N 0 v108 v109 v110 σ) fun v111 σ112 =>
  zl (aX L xs (x3 + 1)) fun v113 =>
  zl (aX L xs (x3 + 2)) fun v114 =>
  zl (aX L xs (x3 + 3)) fun v115 =>
  zl (gC 12 218) fun _ => zb (f_X12_level N 218 v113 v114 v115 σ112) fun v116 σ117 =>
  again18 (x3 + 6, σ117)
def J_L_law_747 (N : Nat) (L : Nat) (xs : Nat → Int32) (again18 : Int32 × zS → Option (Int32 × zS)) (x3 : Int32) (σ : zS) : Option (Int32 × zS) :=
  zl (aX L xs (x3 + 1)) fun v118 =>
  zl (aX L xs (x3 + 2)) fun v119 =>
  zl (gC 11 0) fun _ => zb (f_X11_nth N 0 v118 v119 σ) fun v120 σ121 =>
  zl (aX L xs (x3 + 1)) fun v122 =>
  zl (aX L xs (x3 + 2)) fun v123 =>
  zl (gC 12 218) fun _ => zb (f_X12_nth N 218 v122 v123 σ121) fun v124 σ125 =>
  again18 (x3 + 6, σ125)
def J_L_law_780 (N : Nat) (L : Nat) (xs : Nat → Int32) (again18 : Int32 × zS → Option (Int32 × zS)) (x3 : Int32) (σ : zS) : Option (Int32 × zS) :=
  zl (aX L xs (x3 + 1)) fun v126 =>
  zl (aX L xs (x3 + 2)) fun v127 =>
  zl (gC 11 0) fun _ => zb (f_X11_rank N 0 v126 v127 σ) fun v128 σ129 =>
  zl (aX L xs (x3 + 1)) fun v130 =>
  zl (aX L xs (x3 + 2)) fun v131 =>
  zl (gC 12 218) fun _ => zb (f_X12_rank_ N 218 v130 v131 σ129) fun v132 σ133 =>
  again18 (x3 + 6, σ133)
def J_L_law_813 (N : Nat) (L : Nat) (xs : Nat → Int32) (again18 : Int32 × zS → Option (Int32 × zS)) (x3 : Int32) (σ : zS) : Option (Int32 × zS) :=
  zl (aX L xs (x3 + 1)) fun v134 =>
  zl (aX L xs (x3 + 2)) fun v135 =>
  zl (gC 11 0) fun _ => zb (f_X11_light N 0 v134 v135 σ) fun v136 σ137 =>
  zl (aX L xs (x3 + 1)) fun v138 =>
  zl (aX L xs (x3 + 2)) fun v139 =>
  zl (gC 12 218) fun _ => zb (f_X12_light N 218 v138 v139 σ137) fun v140 σ141 =>
  again18 (x3 + 6, σ141)
def J_L_law_846 (N : Nat) (L : Nat) (xs : Nat → Int32) (again18 : Int32 × zS → Option (Int32 × zS)) (x3 : Int32) (σ : zS) : Option (Int32 × zS) :=
  zl (aX L xs (x3 + 1)) fun v142 =>
  zl (gC 11 0) fun _ => zb (f_X11_weight N 0 v142 σ) fun v143 σ144 =>
  zl (aX L xs (x3 + 1)) fun v145 =>
  zl (gC 12 218) fun _ => zb (f_X12_weight N 218 v145 σ144) fun v146 σ147 =>
  again18 (x3 + 6, σ147)
def J_L_law_869 (N : Nat) (L : Nat) (xs : Nat → Int32) (again18 : Int32 × zS → Option (Int32 × zS)) (x3 : Int32) (σ : zS) : Option (Int32 × zS) :=
  zl (aX L xs (x3 + 1)) fun v148 =>
  zl (aX L xs (x3 + 2)) fun v149 =>
  zl (gC 11 0) fun _ => zb (f_X11_weigh N 0 v148 v149 σ) fun v150 σ151 =>
  zl (aX L xs (x3 + 1)) fun v152 =>
  zl (aX L xs (x3 + 2)) fun v153 =>
  zl (gC 12 218) fun _ => zb (f_X12_weigh N 218 v152 v153 σ151) fun v154 σ155 =>
  again18 (x3 + 6, σ155)
def J_L_law_902 (N : Nat) (L : Nat) (xs : Nat → Int32) (again18 : Int32 × zS → Option (Int32 × zS)) (x3 : Int32) (σ : zS) : Option (Int32 × zS) :=
  zl (aX L xs (x3 + 1)) fun v156 =>
  zl (aX L xs (x3 + 2)) fun v157 =>
  zl (gC 11 0) fun _ => zb (f_X11_weighs N 0 v156 v157 σ) fun v158 σ159 =>
  zl (aX L xs (x3 + 1)) fun v160 =>
  zl (aX L xs (x3 + 2)) fun v161 =>
  zl (gC 12 218) fun _ => zb (f_X12_weighs N 218 v160 v161 σ159) fun v162 σ163 =>
  again18 (x3 + 6, σ163)
def J_L_law_935 (N : Nat) (L : Nat) (xs : Nat → Int32) (again18 : Int32 × zS → Option (Int32 × zS)) (x3 : Int32) (σ : zS) : Option (Int32 × zS) :=
  zl (aX L xs (x3 + 1)) fun v164 =>
  zl (aX L xs (x3 + 2)) fun v165 =>
  zl (gC 11 0) fun _ => zb (f_X11_each N 0 v164 v165 σ) fun v166 σ167 =>
  zl (aX L xs (x3 + 1)) fun v168 =>
  zl (aX L xs (x3 + 2)) fun v169 =>
  zl (gC 12 218) fun _ => zb (f_X12_each N 218 v168 v169 σ167) fun v170 σ171 =>
  again18 (x3 + 6, σ171)
def J_L_law_968 (N : Nat) (L : Nat) (xs : Nat → Int32) (again18 : Int32 × zS → Option (Int32 × zS)) (x3 : Int32) (σ : zS) : Option (Int32 × zS) :=
  zl (aX L xs (x3 + 1)) fun v172 =>
  zl (aX L xs (x3 + 2)) fun v173 =>
  zl (gC 11 0) fun _ => zb (f_X11_names N 0 v172 v173 σ) fun v174 σ175 =>
  zl (aX L xs (x3 + 1)) fun v176 =>
  zl (aX L xs (x3 + 2)) fun v177 =>
  zl (gC 12 218) fun _ => zb (f_X12_names N 218 v176 v177 σ175) fun v178 σ179 =>
  again18 (x3 + 6, σ179)
def J_L_law_1001 (N : Nat) (L : Nat) (xs : Nat → Int32) (again18 : Int32 × zS → Option (Int32 × zS)) (x3 : Int32) (σ : zS) : Option (Int32 × zS) :=
  zl (aX L xs (x3 + 1)) fun v180 =>
  zl (aX L xs (x3 + 2)) fun v181 =>
  zl (gC 11 0) fun _ => zb (f_X11_draw N 0 v180 v181 σ) fun v182 σ183 =>
  zl (aX L xs (x3 + 1)) fun v184 =>
  zl (aX L xs (x3 + 2)) fun v185 =>
  zl (gC 12 218) fun _ => zb (f_X12_draw N 218 v184 v185 σ183) fun v186 σ187 =>
  again18 (x3 + 6, σ187)
def J_L_law_1034 (N : Nat) (L : Nat) (xs : Nat → Int32) (again18 : Int32 × zS → Option (Int32 × zS)) (x3 : Int32) (σ : zS) : Option (Int32 × zS) :=
  zl (aX L xs (x3 + 1)) fun v188 =>
  zl (aX L xs (x3 + 2)) fun v189 =>
  zl (gC 11 0) fun _ => zb (f_X11_alike N 0 v188 v189 σ) fun v190 σ191 =>
  zl (aX L xs (x3 + 1)) fun v192 =>
  zl (aX L xs (x3 + 2)) fun v193 =>
  zl (gC 12 218) fun _ => zb (f_X12_alike N 218 v192 v193 σ191) fun v194 σ195 =>
  again18 (x3 + 6, σ195)
def J_L_law_1067 (N : Nat) (L : Nat) (xs : Nat → Int32) (again18 : Int32 × zS → Option (Int32 × zS)) (x3 : Int32) (σ : zS) : Option (Int32 × zS) :=
  zl (aX L xs (x3 + 1)) fun v196 =>
  zl (aX L xs (x3 + 2)) fun v197 =>
  zl (gC 11 0) fun _ => zb (f_X11_differ N 0 v196 v197 σ) fun v198 σ199 =>
  zl (aX L xs (x3 + 1)) fun v200 =>
  zl (aX L xs (x3 + 2)) fun v201 =>
  zl (gC 12 218) fun _ => zb (f_X12_differ N 218 v200 v201 σ199) fun v202 σ203 =>
  again18 (x3 + 6, σ203)
def J_L_law_1100 (N : Nat) (L : Nat) (xs : Nat → Int32) (again18 : Int32 × zS → Option (Int32 × zS)) (x3 : Int32) (σ : zS) : Option (Int32 × zS) :=
  zl (aX L xs (x3 + 1)) fun v204 =>
  zl (aX L xs (x3 + 2)) fun v205 =>
  zl (gC 11 0) fun _ => zb (f_X11_within N 0 v204 v205 σ) fun v206 σ207 =>
  zl (aX L xs (x3 + 1)) fun v208 =>
  zl (aX L xs (x3 + 2)) fun v209 =>
  zl (gC 12 218) fun _ => zb (f_X12_within N 218 v208 v209 σ207) fun v210 σ211 =>
  again18 (x3 + 6, σ211)
def J_L_law_1133 (N : Nat) (L : Nat) (xs : Nat → Int32) (again18 : Int32 × zS → Option (Int32 × zS)) (x3 : Int32) (σ : zS) : Option (Int32 × zS) :=
  zl (aX L xs (x3 + 1)) fun v212 =>
  zl (aX L xs (x3 + 2)) fun v213 =>
  zl (gC 11 0) fun _ => zb (f_X11_dual N 0 v212 v213 σ) fun v214 σ215 =>
  zl (aX L xs (x3 + 1)) fun v216 =>
  zl (aX L xs (x3 + 2)) fun v217 =>
  zl (gC 12 218) fun _ => zb (f_X12_dual N 218 v216 v217 σ215) fun v218 σ219 =>
  again18 (x3 + 6, σ219)
def J_L_law_1166 (N : Nat) (L : Nat) (xs : Nat → Int32) (again18 : Int32 × zS → Option (Int32 × zS)) (x3 : Int32) (σ : zS) : Option (Int32 × zS) :=
  zl (aX L xs (x3 + 1)) fun v220 =>
  zl (aX L xs (x3 + 2)) fun v221 =>
  zl (gC 11 0) fun _ => zb (f_X11_apart N 0 v220 v221 σ) fun v222 σ223 =>
  zl (aX L xs (x3 + 1)) fun v224 =>
  zl (aX L xs (x3 + 2)) fun v225 =>
  zl (gC 12 218) fun _ => zb (f_X12_apart N 218 v224 v225 σ223) fun v226 σ227 =>
  again18 (x3 + 6, σ227)
def J_L_law_1199 (N : Nat) (L : Nat) (xs : Nat → Int32) (again18 : Int32 × zS → Option (Int32 × zS)) (x3 : Int32) (σ : zS) : Option (Int32 × zS) :=
  zl (aX L xs (x3 + 1)) fun v228 =>
  zl (aX L xs (x3 + 2)) fun v229 =>
  zl (gC 11 0) fun _ => zb (f_X11_packs N 0 v228 v229 σ) fun v230 σ231 =>
  zl (aX L xs (x3 + 1)) fun v232 =>
  zl (aX L xs (x3 + 2)) fun v233 =>
  zl (gC 12 218) fun _ => zb (f_X12_packs N 218 v232 v233 σ231) fun v234 σ235 =>
  again18 (x3 + 6, σ235)
def J_L_law_1232 (N : Nat) (L : Nat) (xs : Nat → Int32) (again18 : Int32 × zS → Option (Int32 × zS)) (x3 : Int32) (σ : zS) : Option (Int32 × zS) :=
  zl (aX L xs (x3 + 1)) fun v236 =>
  zl (gC 11 0) fun _ => zb (f_X11_nodes N 0 v236 σ) fun v237 σ238 =>
  zl (aX L xs (x3 + 1)) fun v239 =>
  zl (gC 12 218) fun _ => zb (f_X12_nodes N 218 v239 σ238) fun v240 σ241 =>
  again18 (x3 + 6, σ241)
def J_L_law_1255 (N : Nat) (L : Nat) (xs : Nat → Int32) (again18 : Int32 × zS → Option (Int32 × zS)) (x3 : Int32) (σ : zS) : Option (Int32 × zS) :=
  zl (gC 11 0) fun _ => zb (f_X11_net N 0 σ) fun v242 σ243 =>
  zl (gC 12 218) fun _ => zb (f_X12_net N 218 σ243) fun v244 σ245 =>
  again18 (x3 + 6, σ245)
def J_L_law_1268 (N : Nat) (L : Nat) (xs : Nat → Int32) (again18 : Int32 × zS → Option (Int32 × zS)) (x3 : Int32) (σ : zS) : Option (Int32 × zS) :=
  zl (aX L xs (x3 + 1)) fun v246 =>
  zl (aX L xs (x3 + 2)) fun v247 =>
  zl (gC 11 0) fun _ => zb (f_X11_wide N 0 v246 v247 σ) fun v248 σ249 =>
  zl (aX L xs (x3 + 1)) fun v250 =>
  zl (aX L xs (x3 + 2)) fun v251 =>
  zl (gC 12 218) fun _ => zb (f_X12_wide N 218 v250 v251 σ249) fun v252 σ253 =>
  again18 (x3 + 6, σ253)
def J_L_law_1301 (N : Nat) (L : Nat) (xs : Nat → Int32) (again18 : Int32 × zS → Option (Int32 × zS)) (x3 : Int32) (σ : zS) : Option (Int32 × zS) :=
  zl (aX L xs (x3 + 1)) fun v254 =>
  zl (gC 11 0) fun _ => zb (f_X11_order N 0 v254 σ) fun v255 σ256 =>
  zl (aX L xs (x3 + 1)) fun v257 =>
  zl (gC 12 218) fun _ => zb (f_X12_order N 218 v257 σ256) fun v258 σ259 =>
  again18 (x3 + 6, σ259)
def J_L_law_1324 (N : Nat) (L : Nat) (xs : Nat → Int32) (again18 : Int32 × zS → Option (Int32 × zS)) (x3 : Int32) (σ : zS) : Option (Int32 × zS) :=
  zl (aX L xs (x3 + 1)) fun v260 =>
  zl (gC 11 0) fun _ => zb (f_X11_swap N 0 v260 σ) fun v261 σ262 =>
  zl (aX L xs (x3 + 1)) fun v263 =>
  zl (gC 12 218) fun _ => zb (f_X12_swap N 218 v263 σ262) fun v264 σ265 =>
  again18 (x3 + 6, σ265)
def J_L_law_1347 (N : Nat) (L : Nat) (xs : Nat → Int32) (again18 : Int32 × zS → Option (Int32 × zS)) (x3 : Int32) (σ : zS) : Option (Int32 × zS) :=
  zl (aX L xs (x3 + 1)) fun v266 =>
  zl (aX L xs (x3 + 2)) fun v267 =>
  zl (gC 11 0) fun _ => zb (f_X11_move N 0 v266 v267 σ) fun v268 σ269 =>
  zl (aX L xs (x3 + 1)) fun v270 =>
  zl (aX L xs (x3 + 2)) fun v271 =>
  zl (gC 12 218) fun _ => zb (f_X12_move N 218 v270 v271 σ269) fun v272 σ273 =>
  again18 (x3 + 6, σ273)
def J_L_law_1380 (N : Nat) (L : Nat) (xs : Nat → Int32) (again18 : Int32 × zS → Option (Int32 × zS)) (x3 : Int32) (σ : zS) : Option (Int32 × zS) :=
  zl (aX L xs (x3 + 1)) fun v274 =>
  zl (aX L xs (x3 + 2)) fun v275 =>
  zl (gC 11 0) fun _ => zb (f_X11_best N 0 v274 v275 σ) fun v276 σ277 =>
  zl (aX L xs (x3 + 1)) fun v278 =>
  zl (aX L xs (x3 + 2)) fun v279 =>
  zl (gC 12 218) fun _ => zb (f_X12_best N 218 v278 v279 σ277) fun v280 σ281 =>
  again18 (x3 + 6, σ281)
def J_L_law_1413 (N : Nat) (L : Nat) (xs : Nat → Int32) (again18 : Int32 × zS → Option (Int32 × zS)) (x3 : Int32) (σ : zS) : Option (Int32 × zS) :=
  zl (aX L xs (x3 + 1)) fun v282 =>
  zl (gC 11 0) fun _ => zb (f_X11_sift N 0 v282 σ) fun v283 σ284 =>
  zl (aX L xs (x3 + 1)) fun v285 =>
  zl (gC 12 218) fun _ => zb (f_X12_sift N 218 v285 σ284) fun v286 σ287 =>
  again18 (x3 + 6, σ287)
def J_L_law_1436 (N : Nat) (L : Nat) (xs : Nat → Int32) (again18 : Int32 × zS → Option (Int32 × zS)) (x3 : Int32) (σ : zS) : Option (Int32 × zS) :=
  zl (aX L xs (x3 + 1)) fun v288 =>
  zl (aX L xs (x3 + 2)) fun v289 =>
  zl (aX L xs (x3 + 3)) fun v290 =>
  zl (gC 11 0) fun _ => zb (f_X11_ways N 0 v288 v289 v290 σ) fun v291 σ292 =>
  zl (aX L xs (x3 + 1)) fun v293 =>
  zl (aX L xs (x3 + 2)) fun v294 =>
  zl (aX L xs (x3 + 3)) fun v295 =>
  zl (gC 12 218) fun _ => zb (f_X12_ways N 218 v293 v294 v295 σ292) fun v296 σ297 =>
  again18 (x3 + 6, σ297)
def J_L_law_1479 (N : Nat) (L : Nat) (xs : Nat → Int32) (again18 : Int32 × zS → Option (Int32 × zS)) (x3 : Int32) (σ : zS) : Option (Int32 × zS) :=
  zl (aX L xs (x3 + 1)) fun v298 =>
  zl (aX L xs (x3 + 2)) fun v299 =>
  zl (gC 11 0) fun _ => zb (f_X11_map N 0 v298 v299 σ) fun v300 σ301 =>
  zl (aX L xs (x3 + 1)) fun v302 =>
  zl (aX L xs (x3 + 2)) fun v303 =>
  zl (gC 12 218) fun _ => zb (f_X12_map N 218 v302 v303 σ301) fun v304 σ305 =>
  again18 (x3 + 6, σ305)
def J_L_law_1512 (N : Nat) (L : Nat) (xs : Nat → Int32) (again18 : Int32 × zS → Option (Int32 × zS)) (x3 : Int32) (σ : zS) : Option (Int32 × zS) :=
  zl (aX L xs (x3 + 1)) fun v306 =>
  zl (aX L xs (x3 + 2)) fun v307 =>
  zl (aX L xs (x3 + 3)) fun v308 =>
  zl (gC 11 0) fun _ => zb (f_X11_cuts N 0 v306 v307 v308 σ) fun v309 σ310 =>
  zl (aX L xs (x3 + 1)) fun v311 =>
  zl (aX L xs (x3 + 2)) fun v312 =>
  zl (aX L xs (x3 + 3)) fun v313 =>
  zl (gC 12 218) fun _ => zb (f_X12_cuts N 218 v311 v312 v313 σ310) fun v314 σ315 =>
  again18 (x3 + 6, σ315)
def J_L_law_1555 (N : Nat) (L : Nat) (xs : Nat → Int32) (again18 : Int32 × zS → Option (Int32 × zS)) (x3 : Int32) (σ : zS) : Option (Int32 × zS) :=
  zl (aX L xs (x3 + 1)) fun v316 =>
  zl (aX L xs (x3 + 2)) fun v317 =>
  zl (gC 11 0) fun _ => zb (f_X11_judge N 0 v316 v317 σ) fun v318 σ319 =>
  zl (aX L xs (x3 + 1)) fun v320 =>
  zl (aX L xs (x3 + 2)) fun v321 =>
  zl (gC 12 218) fun _ => zb (f_X12_judge N 218 v320 v321 σ319) fun v322 σ323 =>
  again18 (x3 + 6, σ323)
def J_L_law_1588 (N : Nat) (L : Nat) (xs : Nat → Int32) (again18 : Int32 × zS → Option (Int32 × zS)) (x3 : Int32) (σ : zS) : Option (Int32 × zS) :=
  zl (aX L xs (x3 + 1)) fun v324 =>
  zl (aX L xs (x3 + 2)) fun v325 =>
  zl (gC 11 0) fun _ => zb (f_X11_takes N 0 v324 v325 σ) fun v326 σ327 =>
  zl (aX L xs (x3 + 1)) fun v328 =>
  zl (aX L xs (x3 + 2)) fun v329 =>
  zl (gC 12 218) fun _ => zb (f_X12_takes_ N 218 v328 v329 σ327) fun v330 σ331 =>
  again18 (x3 + 6, σ331)
def J_L_law_1621 (N : Nat) (L : Nat) (xs : Nat → Int32) (again18 : Int32 × zS → Option (Int32 × zS)) (x3 : Int32) (σ : zS) : Option (Int32 × zS) :=
  zl (aX L xs (x3 + 1)) fun v332 =>
  zl (gC 11 0) fun _ => zb (f_X11_count N 0 v332 σ) fun v333 σ334 =>
  zl (aX L xs (x3 + 1)) fun v335 =>
  zl (gC 12 218) fun _ => zb (f_X12_count N 218 v335 σ334) fun v336 σ337 =>
  again18 (x3 + 6, σ337)
def J_L_law_1644 (N : Nat) (L : Nat) (xs : Nat → Int32) (again18 : Int32 × zS → Option (Int32 × zS)) (x3 : Int32) (σ : zS) : Option (Int32 × zS) :=
  zl (aX L xs (x3 + 1)) fun v338 =>
  zl (gC 11 0) fun _ => zb (f_X11_keep N 0 v338 σ) fun v339 σ340 =>
  zl (aX L xs (x3 + 1)) fun v341 =>
  zl (gC 12 218) fun _ => zb (f_X12_keep N 218 v341 σ340) fun v342 σ343 =>
  again18 (x3 + 6, σ343)
def J_L_law_1667 (N : Nat) (L : Nat) (xs : Nat → Int32) (again18 : Int32 × zS → Option (Int32 × zS)) (x3 : Int32) (σ : zS) : Option (Int32 × zS) :=
  zl (aX L xs (x3 + 1)) fun v344 =>
  zl (gC 11 0) fun _ => zb (f_X11_back N 0 v344 σ) fun v345 σ346 =>
  zl (aX L xs (x3 + 1)) fun v347 =>
  zl (gC 12 218) fun _ => zb (f_X12_back N 218 v347 σ346) fun v348 σ349 =>
  again18 (x3 + 6, σ349)
def J_L_law_1690 (N : Nat) (L : Nat) (xs : Nat → Int32) (again18 : Int32 × zS → Option (Int32 × zS)) (x3 : Int32) (σ : zS) : Option (Int32 × zS) :=
  zl (aX L xs (x3 + 1)) fun v350 =>
  zl (aX L xs (x3 + 2)) fun v351 =>
  zl (aX L xs (x3 + 3)) fun v352 =>
  zl (gC 11 0) fun _ => zb (f_X11_row N 0 v350 v351 v352 σ) fun v353 σ354 =>
  zl (aX L xs (x3 + 1)) fun v355 =>
  zl (aX L xs (x3 + 2)) fun v356 =>
  zl (aX L xs (x3 + 3)) fun v357 =>
  zl (gC 12 218) fun _ => zb (f_X12_row N 218 v355 v356 v357 σ354) fun v358 σ359 =>
  again18 (x3 + 6, σ359)
def J_L_law_1733 (N : Nat) (L : Nat) (xs : Nat → Int32) (again18 : Int32 × zS → Option (Int32 × zS)) (x3 : Int32) (σ : zS) : Option (Int32 × zS) :=
  zl (aX L xs (x3 + 1)) fun v360 =>
  zl (aX L xs (x3 + 2)) fun v361 =>
  zl (aX L xs (x3 + 3)) fun v362 =>
  zl (aX L xs (x3 + 4)) fun v363 =>
  zl (gC 11 0) fun _ => zb (f_X11_write N 0 v360 v361 ((zsl (Int32.toInt64 v362) 32) ||| ((Int32.toInt64 v363) &&& 4294967295)) σ) fun v364 σ365 =>
  zl (aX L xs (x3 + 1)) fun v366 =>
  zl (aX L xs (x3 + 2)) fun v367 =>
  zl (aX L xs (x3 + 3)) fun v368 =>
  zl (aX L xs (x3 + 4)) fun v369 =>
  zl (gC 12 218) fun _ => zb (f_X12_write N 218 v366 v367 ((zsl (Int32.toInt64 v368) 32) ||| ((Int32.toInt64 v369) &&& 4294967295)) σ365) fun v370 σ371 =>
  again18 (x3 + 6, σ371)
def J_L_law_1806 (N : Nat) (L : Nat) (xs : Nat → Int32) (again18 : Int32 × zS → Option (Int32 × zS)) (x3 : Int32) (σ : zS) : Option (Int32 × zS) :=
  zl (aX L xs (x3 + 1)) fun v372 =>
  zl (aX L xs (x3 + 2)) fun v373 =>
  zl (aX L xs (x3 + 3)) fun v374 =>
  zl (aX L xs (x3 + 4)) fun v375 =>
  zl (aX L xs (x3 + 5)) fun v376 =>
  zl (gC 11 0) fun _ => zb (f_X11_paste N 0 v372 v373 v374 v375 v376 σ) fun v377 σ378 =>
  zl (aX L xs (x3 + 1)) fun v379 =>
  zl (aX L xs (x3 + 2)) fun v380 =>
  zl (aX L xs (x3 + 3)) fun v381 =>
  zl (aX L xs (x3 + 4)) fun v382 =>
  zl (aX L xs (x3 + 5)) fun v383 =>
  zl (gC 12 218) fun _ => zb (f_X12_paste N 218 v379 v380 v381 v382 v383 σ378) fun v384 σ385 =>
  again18 (x3 + 6, σ385)
def F_L_law_18 (N : Nat) (L : Nat) (xs : Nat → Int32) (again18 : Int32 × zS → Option (Int32 × zS)) : Int32 × zS → Option (Int32 × zS)
  | (x3, σ) =>
  if ((Int32.ofNat L) - 6) < x3 then
    (some (1, σ))
  else
    (zl (aX L xs x3) fun v1 =>
    if (v1 &&& 63) = 0 then
      (J_L_law_236 N L xs again18 x3 σ)
    else if (v1 &&& 63) = 1 then
      (J_L_law_299 N L xs again18 x3 σ)
    else if (v1 &&& 63) = 2 then
      (J_L_law_322 N L xs again18 x3 σ)
    else if (v1 &&& 63) = 3 then
      (J_L_law_335 N L xs again18 x3 σ)
    else if (v1 &&& 63) = 4 then
      (J_L_law_358 N L xs again18 x3 σ)
    else if (v1 &&& 63) = 5 then
      (J_L_law_381 N L xs again18 x3 σ)
    else if (v1 &&& 63) = 6 then
      (J_L_law_404 N L xs again18 x3 σ)
    else if (v1 &&& 63) = 7 then
      (J_L_law_437 N L xs again18 x3 σ)
    else if (v1 &&& 63) = 8 then
      (J_L_law_490 N L xs again18 x3 σ)
    else if (v1 &&& 63) = 9 then
      (J_L_law_533 N L xs again18 x3 σ)
    else if (v1 &&& 63) = 10 then
      (J_L_law_592 N L xs again18 x3 σ)
    else if (v1 &&& 63) = 11 then
      (J_L_law_635 N L xs again18 x3 σ)
    else if (v1 &&& 63) = 12 then
      (J_L_law_704 N L xs again18 x3 σ)
    else if (v1 &&& 63) = 13 then
      (J_L_law_747 N L xs again18 x3 σ)
    else if (v1 &&& 63) = 14 then
      (J_L_law_780 N L xs again18 x3 σ)
    else if (v1 &&& 63) = 15 then
      (J_L_law_813 N L xs again18 x3 σ)
    else if (v1 &&& 63) = 16 then
      (J_L_law_846 N L xs again18 x3 σ)
    else if (v1 &&& 63) = 17 then
      (J_L_law_869 N L xs again18 x3 σ)
    else if (v1 &&& 63) = 18 then
      (J_L_law_902 N L xs again18 x3 σ)
    else if (v1 &&& 63) = 19 then
      (J_L_law_935 N L xs again18 x3 σ)
    else if (v1 &&& 63) = 20 then
      (J_L_law_968 N L xs again18 x3 σ)
    else if (v1 &&& 63) = 21 then
      (J_L_law_1001 N L xs again18 x3 σ)
    else if (v1 &&& 63) = 22 then
      (J_L_law_1034 N L xs again18 x3 σ)
    else if (v1 &&& 63) = 23 then
      (J_L_law_1067 N L xs again18 x3 σ)
    else if (v1 &&& 63) = 24 then
      (J_L_law_1100 N L xs again18 x3 σ)
    else if (v1 &&& 63) = 25 then
      (J_L_law_1133 N L xs again18 x3 σ)
    else if (v1 &&& 63) = 26 then
      (J_L_law_1166 N L xs again18 x3 σ)
    else if (v1 &&& 63) = 27 then
      (J_L_law_1199 N L xs again18 x3 σ)
    else if (v1 &&& 63) = 28 then
      (J_L_law_1232 N L xs again18 x3 σ)
    else if (v1 &&& 63) = 29 then
      (J_L_law_1255 N L xs again18 x3 σ)
    else if (v1 &&& 63) = 30 then
      (J_L_law_1268 N L xs again18 x3 σ)
    else if (v1 &&& 63) = 31 then
      (J_L_law_1301 N L xs again18 x3 σ)
    else if (v1 &&& 63) = 32 then
      (J_L_law_1324 N L xs again18 x3 σ)
    else if (v1 &&& 63) = 33 then
      (J_L_law_1347 N L xs again18 x3 σ)
    else if (v1 &&& 63) = 34 then
      (J_L_law_1380 N L xs again18 x3 σ)
    else if (v1 &&& 63) = 35 then
      (J_L_law_1413 N L xs again18 x3 σ)
    else if (v1 &&& 63) = 36 then
      (J_L_law_1436 N L xs again18 x3 σ)
    else if (v1 &&& 63) = 37 then
      (J_L_law_1479 N L xs again18 x3 σ)
    else if (v1 &&& 63) = 38 then
      (J_L_law_1512 N L xs again18 x3 σ)
    else if (v1 &&& 63) = 39 then
      (J_L_law_1555 N L xs again18 x3 σ)
    else if (v1 &&& 63) = 40 then
      (J_L_law_1588 N L xs again18 x3 σ)
    else if (v1 &&& 63) = 41 then
      (J_L_law_1621 N L xs again18 x3 σ)
    else if (v1 &&& 63) = 42 then
      (J_L_law_1644 N L xs again18 x3 σ)
    else if (v1 &&& 63) = 43 then
      (J_L_law_1667 N L xs again18 x3 σ)
    else if (v1 &&& 63) = 44 then
      (J_L_law_1690 N L xs again18 x3 σ)
    else if (v1 &&& 63) = 45 then
      (J_L_law_1733 N L xs again18 x3 σ)
    else if (v1 &&& 63) = 46 then
      (J_L_law_1806 N L xs again18 x3 σ)
    else (again18 (x3 + 6, σ)))
def f_L_law (N L : Nat) (xs : Nat → Int32) (σ : zS) : Option (Int32 × zS) := zlp (F_L_law_18 N L xs) N (0, σ)
