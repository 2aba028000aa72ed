section UROWS
theorem u_J_L_law_1251 {N : Nat} {L : Nat} {xss : Nat → Int32} {k18 : Nat → Nat → Int32 → vS → Option (Int32 × vS)} {a1 : Nat} {a2 : Nat} {l3 : Int32} {s : vS} : J_L_law_1251 N L xss k18 a1 a2 l3 s = (nm (l3 + (5 : Int32)) (fun l3_202 => k18 a1 a2 l3_202 s)) := rfl
theorem u_H_L_law_18 {N : Nat} {L : Nat} {xss : Nat → Int32} {n : Nat} {a1 : Nat} {a2 : Nat} {l3 : Int32} {s : vS} : H_L_law_18 N L xss (n + 1) a1 a2 l3 s = (nm (Int32.ofNat L) (fun v5 => if (v5 - (5 : Int32)) < l3 then (some ((1 : Int32), s)) else (scr L xss l3 (fun v6 => nm ((v6 &&& (31 : Int32))) (fun v7 => if v7 = (0 : Int32) then (scr L xss (l3 + (1 : Int32)) (fun v196 => scr L xss (l3 + (2 : Int32)) (fun v197 => bnd (F_X8_flag N a1 v196 v197 s) (fun v198 s => scr L xss (l3 + (1 : Int32)) (fun v199 => scr L xss (l3 + (2 : Int32)) (fun v200 => bnd (F_X9_flag N a2 v199 v200 s) (fun v201 s => if v198 = v201 then (J_L_law_1251 N L xss (H_L_law_18 N L xss n) a1 a2 l3 s) else (some ((0 : Int32), s))))))))) else (if v7 = (1 : Int32) then (scr L xss (l3 + (1 : Int32)) (fun v190 => scr L xss (l3 + (2 : Int32)) (fun v191 => bnd (F_X8_rooted N a1 v190 v191 s) (fun v192 s => scr L xss (l3 + (1 : Int32)) (fun v193 => scr L xss (l3 + (2 : Int32)) (fun v194 => bnd (F_X9_rooted N a2 v193 v194 s) (fun v195 s => if v192 = v195 then (J_L_law_1251 N L xss (H_L_law_18 N L xss n) a1 a2 l3 s) else (some ((0 : Int32), s))))))))) else (if v7 = (2 : Int32) then (scr L xss (l3 + (1 : Int32)) (fun v182 => scr L xss (l3 + (2 : Int32)) (fun v183 => scr L xss (l3 + (3 : Int32)) (fun v184 => bnd (F_X8_alike N a1 v182 v183 v184 s) (fun v185 s => scr L xss (l3 + (1 : Int32)) (fun v186 => scr L xss (l3 + (2 : Int32)) (fun v187 => scr L xss (l3 + (3 : Int32)) (fun v188 => bnd (F_X9_alike N a2 v186 v187 v188 s) (fun v189 s => if v185 = v189 then (J_L_law_1251 N L xss (H_L_law_18 N L xss n) a1 a2 l3 s) else (some ((0 : Int32), s))))))))))) else (if v7 = (3 : Int32) then (scr L xss (l3 + (1 : Int32)) (fun v174 => scr L xss (l3 + (2 : Int32)) (fun v175 => scr L xss (l3 + (3 : Int32)) (fun v176 => bnd (F_X8_inside N a1 v174 v175 v176 s) (fun v177 s => scr L xss (l3 + (1 : Int32)) (fun v178 => scr L xss (l3 + (2 : Int32)) (fun v179 => scr L xss (l3 + (3 : Int32)) (fun v180 => bnd (F_X9_inside N a2 v178 v179 v180 s) (fun v181 s => if (lg_cmp v177 v181) = (0 : Int32) then (J_L_law_1251 N L xss (H_L_law_18 N L xss n) a1 a2 l3 s) else (some ((0 : Int32), s))))))))))) else (if v7 = (4 : Int32) then (scr L xss (l3 + (1 : Int32)) (fun v164 => scr L xss (l3 + (2 : Int32)) (fun v165 => scr L xss (l3 + (3 : Int32)) (fun v166 => scr L xss (l3 + (4 : Int32)) (fun v167 => bnd (F_X8_joint N a1 v164 v165 v166 v167 s) (fun v168 s => scr L xss (l3 + (1 : Int32)) (fun v169 => scr L xss (l3 + (2 : Int32)) (fun v170 => scr L xss (l3 + (3 : Int32)) (fun v171 => scr L xss (l3 + (4 : Int32)) (fun v172 => bnd (F_X9_joint N a2 v169 v170 v171 v172 s) (fun v173 s => if (lg_cmp v168 v173) = (0 : Int32) then (J_L_law_1251 N L xss (H_L_law_18 N L xss n) a1 a2 l3 s) else (some ((0 : Int32), s))))))))))))) else (if v7 = (5 : Int32) then (scr L xss (l3 + (1 : Int32)) (fun v154 => scr L xss (l3 + (2 : Int32)) (fun v155 => scr L xss (l3 + (3 : Int32)) (fun v156 => scr L xss (l3 + (4 : Int32)) (fun v157 => bnd (F_X8_jointRooted N a1 v154 v155 v156 v157 s) (fun v158 s => scr L xss (l3 + (1 : Int32)) (fun v159 => scr L xss (l3 + (2 : Int32)) (fun v160 => scr L xss (l3 + (3 : Int32)) (fun v161 => scr L xss (l3 + (4 : Int32)) (fun v162 => bnd (F_X9_jointRooted N a2 v159 v160 v161 v162 s) (fun v163 s => if (lg_cmp v158 v163) = (0 : Int32) then (J_L_law_1251 N L xss (H_L_law_18 N L xss n) a1 a2 l3 s) else (some ((0 : Int32), s))))))))))))) else (if v7 = (6 : Int32) then (scr L xss (l3 + (1 : Int32)) (fun v150 => bnd (F_X8_points N a1 v150 s) (fun v151 s => scr L xss (l3 + (1 : Int32)) (fun v152 => bnd (F_X9_points N a2 v152 s) (fun v153 s => if v151 = v153 then (J_L_law_1251 N L xss (H_L_law_18 N L xss n) a1 a2 l3 s) else (some ((0 : Int32), s))))))) else (if v7 = (7 : Int32) then (scr L xss (l3 + (1 : Int32)) (fun v142 => scr L xss (l3 + (2 : Int32)) (fun v143 => scr L xss (l3 + (3 : Int32)) (fun v144 => bnd (F_X8_line N a1 v142 v143 v144 s) (fun v145 s => scr L xss (l3 + (1 : Int32)) (fun v146 => scr L xss (l3 + (2 : Int32)) (fun v147 => scr L xss (l3 + (3 : Int32)) (fun v148 => bnd (F_X9_line N a2 v146 v147 v148 s) (fun v149 s => if v145 = v149 then (J_L_law_1251 N L xss (H_L_law_18 N L xss n) a1 a2 l3 s) else (some ((0 : Int32), s))))))))))) else (if v7 = (8 : Int32) then (scr L xss (l3 + (1 : Int32)) (fun v138 => bnd (F_X8_told N a1 v138 s) (fun v139 s => scr L xss (l3 + (1 : Int32)) (fun v140 => bnd (F_X9_told N a2 v140 s) (fun v141 s => if v139 = v141 then (J_L_law_1251 N L xss (H_L_law_18 N L xss n) a1 a2 l3 s) else (some ((0 : Int32), s))))))) else (if v7 = (9 : Int32) then (scr L xss (l3 + (1 : Int32)) (fun v134 => bnd (F_X8_beside N a1 v134 s) (fun v135 s => scr L xss (l3 + (1 : Int32)) (fun v136 => bnd (F_X9_beside N a2 v136 s) (fun v137 s => if v135 = v137 then (J_L_law_1251 N L xss (H_L_law_18 N L xss n) a1 a2 l3 s) else (some ((0 : Int32), s))))))) else (if v7 = (10 : Int32) then (scr L xss (l3 + (1 : Int32)) (fun v128 => scr L xss (l3 + (2 : Int32)) (fun v129 => bnd (F_X8_share N a1 v128 v129 s) (fun v130 s => scr L xss (l3 + (1 : Int32)) (fun v131 => scr L xss (l3 + (2 : Int32)) (fun v132 => bnd (F_X9_share N a2 v131 v132 s) (fun v133 s => if (lg_cmp v130 v133) = (0 : Int32) then (J_L_law_1251 N L xss (H_L_law_18 N L xss n) a1 a2 l3 s) else (some ((0 : Int32), s))))))))) else (if v7 = (11 : Int32) then (scr L xss (l3 + (1 : Int32)) (fun v120 => scr L xss (l3 + (2 : Int32)) (fun v121 => scr L xss (l3 + (3 : Int32)) (fun v122 => bnd (F_X8_shareAt N a1 v120 v121 v122 s) (fun v123 s => scr L xss (l3 + (1 : Int32)) (fun v124 => scr L xss (l3 + (2 : Int32)) (fun v125 => scr L xss (l3 + (3 : Int32)) (fun v126 => bnd (F_X9_shareAt N a2 v124 v125 v126 s) (fun v127 s => if (lg_cmp v123 v127) = (0 : Int32) then (J_L_law_1251 N L xss (H_L_law_18 N L xss n) a1 a2 l3 s) else (some ((0 : Int32), s))))))))))) else (if v7 = (12 : Int32) then (scr L xss (l3 + (1 : Int32)) (fun v116 => bnd (F_X8_maps N a1 v116 s) (fun v117 s => scr L xss (l3 + (1 : Int32)) (fun v118 => bnd (F_X9_maps N a2 v118 s) (fun v119 s => if v117 = v119 then (J_L_law_1251 N L xss (H_L_law_18 N L xss n) a1 a2 l3 s) else (some ((0 : Int32), s))))))) else (if v7 = (13 : Int32) then (scr L xss (l3 + (1 : Int32)) (fun v110 => scr L xss (l3 + (2 : Int32)) (fun v111 => bnd (F_X8_rank N a1 v110 v111 s) (fun v112 s => scr L xss (l3 + (1 : Int32)) (fun v113 => scr L xss (l3 + (2 : Int32)) (fun v114 => bnd (F_X9_rank N a2 v113 v114 s) (fun v115 s => if v112 = v115 then (J_L_law_1251 N L xss (H_L_law_18 N L xss n) a1 a2 l3 s) else (some ((0 : Int32), s))))))))) else (if v7 = (14 : Int32) then (scr L xss (l3 + (1 : Int32)) (fun v104 => scr L xss (l3 + (2 : Int32)) (fun v105 => bnd (F_X8_found N a1 v104 v105 s) (fun v106 s => scr L xss (l3 + (1 : Int32)) (fun v107 => scr L xss (l3 + (2 : Int32)) (fun v108 => bnd (F_X9_found N a2 v107 v108 s) (fun v109 s => if v106 = v109 then (J_L_law_1251 N L xss (H_L_law_18 N L xss n) a1 a2 l3 s) else (some ((0 : Int32), s))))))))) else (if v7 = (15 : Int32) then (scr L xss (l3 + (1 : Int32)) (fun v100 => bnd (F_X8_feed N a1 v100 s) (fun v101 s => scr L xss (l3 + (1 : Int32)) (fun v102 => bnd (F_X9_feed N a2 v102 s) (fun v103 s => if v101 = v103 then (J_L_law_1251 N L xss (H_L_law_18 N L xss n) a1 a2 l3 s) else (some ((0 : Int32), s))))))) else (if v7 = (16 : Int32) then (scr L xss (l3 + (1 : Int32)) (fun v96 => bnd (F_X8_read N a1 v96 s) (fun v97 s => scr L xss (l3 + (1 : Int32)) (fun v98 => bnd (F_X9_read N a2 v98 s) (fun v99 s => if v97 = v99 then (J_L_law_1251 N L xss (H_L_law_18 N L xss n) a1 a2 l3 s) else (some ((0 : Int32), s))))))) else (if v7 = (17 : Int32) then (scr L xss (l3 + (1 : Int32)) (fun v92 => bnd (F_X8_clear N a1 v92 s) (fun v93 s => scr L xss (l3 + (1 : Int32)) (fun v94 => bnd (F_X9_clear N a2 v94 s) (fun v95 s => if v93 = v95 then (J_L_law_1251 N L xss (H_L_law_18 N L xss n) a1 a2 l3 s) else (some ((0 : Int32), s))))))) else (if v7 = (18 : Int32) then (scr L xss (l3 + (1 : Int32)) (fun v86 => scr L xss (l3 + (2 : Int32)) (fun v87 => bnd (F_X8_sum N a1 v86 v87 s) (fun v88 s => scr L xss (l3 + (1 : Int32)) (fun v89 => scr L xss (l3 + (2 : Int32)) (fun v90 => bnd (F_X9_sum N a2 v89 v90 s) (fun v91 s => if v88 = v91 then (J_L_law_1251 N L xss (H_L_law_18 N L xss n) a1 a2 l3 s) else (some ((0 : Int32), s))))))))) else (if v7 = (19 : Int32) then (scr L xss (l3 + (1 : Int32)) (fun v80 => scr L xss (l3 + (2 : Int32)) (fun v81 => bnd (F_X8_term N a1 v80 v81 s) (fun v82 s => scr L xss (l3 + (1 : Int32)) (fun v83 => scr L xss (l3 + (2 : Int32)) (fun v84 => bnd (F_X9_term N a2 v83 v84 s) (fun v85 s => if v82 = v85 then (J_L_law_1251 N L xss (H_L_law_18 N L xss n) a1 a2 l3 s) else (some ((0 : Int32), s))))))))) else (if v7 = (20 : Int32) then (scr L xss (l3 + (1 : Int32)) (fun v72 => scr L xss (l3 + (2 : Int32)) (fun v73 => scr L xss (l3 + (3 : Int32)) (fun v74 => bnd (F_X8_coefficient N a1 v72 v73 v74 s) (fun v75 s => scr L xss (l3 + (1 : Int32)) (fun v76 => scr L xss (l3 + (2 : Int32)) (fun v77 => scr L xss (l3 + (3 : Int32)) (fun v78 => bnd (F_X9_coefficient N a2 v76 v77 v78 s) (fun v79 s => if (lg_cmp v75 v79) = (0 : Int32) then (J_L_law_1251 N L xss (H_L_law_18 N L xss n) a1 a2 l3 s) else (some ((0 : Int32), s))))))))))) else (if v7 = (21 : Int32) then (scr L xss (l3 + (1 : Int32)) (fun v62 => scr L xss (l3 + (2 : Int32)) (fun v63 => scr L xss (l3 + (3 : Int32)) (fun v64 => scr L xss (l3 + (4 : Int32)) (fun v65 => bnd (F_X8_makes N a1 v62 v63 v64 v65 s) (fun v66 s => scr L xss (l3 + (1 : Int32)) (fun v67 => scr L xss (l3 + (2 : Int32)) (fun v68 => scr L xss (l3 + (3 : Int32)) (fun v69 => scr L xss (l3 + (4 : Int32)) (fun v70 => bnd (F_X9_makes N a2 v67 v68 v69 v70 s) (fun v71 s => if v66 = v71 then (J_L_law_1251 N L xss (H_L_law_18 N L xss n) a1 a2 l3 s) else (some ((0 : Int32), s))))))))))))) else (if v7 = (22 : Int32) then (scr L xss (l3 + (1 : Int32)) (fun v56 => scr L xss (l3 + (2 : Int32)) (fun v57 => bnd (F_X8_lift N a1 v56 v57 s) (fun v58 s => scr L xss (l3 + (1 : Int32)) (fun v59 => scr L xss (l3 + (2 : Int32)) (fun v60 => bnd (F_X9_lift N a2 v59 v60 s) (fun v61 s => if v58 = v61 then (J_L_law_1251 N L xss (H_L_law_18 N L xss n) a1 a2 l3 s) else (some ((0 : Int32), s))))))))) else (if v7 = (23 : Int32) then (scr L xss (l3 + (1 : Int32)) (fun v52 => bnd (F_X8_average N a1 v52 s) (fun v53 s => scr L xss (l3 + (1 : Int32)) (fun v54 => bnd (F_X9_average N a2 v54 s) (fun v55 s => if v53 = v55 then (J_L_law_1251 N L xss (H_L_law_18 N L xss n) a1 a2 l3 s) else (some ((0 : Int32), s))))))) else (if v7 = (24 : Int32) then (scr L xss (l3 + (1 : Int32)) (fun v42 => scr L xss (l3 + (2 : Int32)) (fun v43 => scr L xss (l3 + (3 : Int32)) (fun v44 => scr L xss (l3 + (4 : Int32)) (fun v45 => bnd (F_X8_bound N a1 v42 v43 v44 v45 s) (fun v46 s => scr L xss (l3 + (1 : Int32)) (fun v47 => scr L xss (l3 + (2 : Int32)) (fun v48 => scr L xss (l3 + (3 : Int32)) (fun v49 => scr L xss (l3 + (4 : Int32)) (fun v50 => bnd (F_X9_bound N a2 v47 v48 v49 v50 s) (fun v51 s => if (lg_cmp v46 v51) = (0 : Int32) then (J_L_law_1251 N L xss (H_L_law_18 N L xss n) a1 a2 l3 s) else (some ((0 : Int32), s))))))))))))) else (if v7 = (25 : Int32) then (scr L xss (l3 + (1 : Int32)) (fun v36 => scr L xss (l3 + (2 : Int32)) (fun v37 => bnd (F_X8_value N a1 v36 v37 s) (fun v38 s => scr L xss (l3 + (1 : Int32)) (fun v39 => scr L xss (l3 + (2 : Int32)) (fun v40 => bnd (F_X9_value N a2 v39 v40 s) (fun v41 s => if (lg_cmp v38 v41) = (0 : Int32) then (J_L_law_1251 N L xss (H_L_law_18 N L xss n) a1 a2 l3 s) else (some ((0 : Int32), s))))))))) else (if v7 = (26 : Int32) then (scr L xss (l3 + (1 : Int32)) (fun v28 => scr L xss (l3 + (2 : Int32)) (fun v29 => scr L xss (l3 + (3 : Int32)) (fun v30 => bnd (F_X8_valueAt N a1 v28 v29 v30 s) (fun v31 s => scr L xss (l3 + (1 : Int32)) (fun v32 => scr L xss (l3 + (2 : Int32)) (fun v33 => scr L xss (l3 + (3 : Int32)) (fun v34 => bnd (F_X9_valueAt N a2 v32 v33 v34 s) (fun v35 s => if (lg_cmp v31 v35) = (0 : Int32) then (J_L_law_1251 N L xss (H_L_law_18 N L xss n) a1 a2 l3 s) else (some ((0 : Int32), s))))))))))) else (if v7 = (27 : Int32) then (scr L xss (l3 + (1 : Int32)) (fun v22 => scr L xss (l3 + (2 : Int32)) (fun v23 => bnd (F_X8_move N a1 v22 v23 s) (fun v24 s => scr L xss (l3 + (1 : Int32)) (fun v25 => scr L xss (l3 + (2 : Int32)) (fun v26 => bnd (F_X9_move N a2 v25 v26 s) (fun v27 s => if v24 = v27 then (J_L_law_1251 N L xss (H_L_law_18 N L xss n) a1 a2 l3 s) else (some ((0 : Int32), s))))))))) else (if v7 = (28 : Int32) then (scr L xss (l3 + (1 : Int32)) (fun v16 => scr L xss (l3 + (2 : Int32)) (fun v17 => bnd (F_X8_film N a1 v16 v17 s) (fun v18 s => scr L xss (l3 + (1 : Int32)) (fun v19 => scr L xss (l3 + (2 : Int32)) (fun v20 => bnd (F_X9_film N a2 v19 v20 s) (fun v21 s => if v18 = v21 then (J_L_law_1251 N L xss (H_L_law_18 N L xss n) a1 a2 l3 s) else (some ((0 : Int32), s))))))))) else (if v7 = (29 : Int32) then (bnd (F_X8_image N a1 s) (fun v14 s => bnd (F_X9_image N a2 s) (fun v15 s => if v14 = v15 then (J_L_law_1251 N L xss (H_L_law_18 N L xss n) a1 a2 l3 s) else (some ((0 : Int32), s))))) else (if v7 = (30 : Int32) then (bnd (F_X8_back N a1 s) (fun v12 s => bnd (F_X9_back N a2 s) (fun v13 s => if v12 = v13 then (J_L_law_1251 N L xss (H_L_law_18 N L xss n) a1 a2 l3 s) else (some ((0 : Int32), s))))) else (if v7 = (31 : Int32) then (scr L xss (l3 + (1 : Int32)) (fun v8 => bnd (F_X8_count N a1 v8 s) (fun v9 s => scr L xss (l3 + (1 : Int32)) (fun v10 => bnd (F_X9_count N a2 v10 s) (fun v11 s => if v9 = v11 then (J_L_law_1251 N L xss (H_L_law_18 N L xss n) a1 a2 l3 s) else (some ((0 : Int32), s))))))) else (J_L_law_1251 N L xss (H_L_law_18 N L xss n) a1 a2 l3 s))))))))))))))))))))))))))))))))))))) := rfl
theorem u_F_L_law {N : Nat} {L : Nat} {xss : Nat → Int32} {s : vS} : F_L_law N L xss s = (nwO s 8 (fun q1 s => bnd (F_X8_init N q1 s) (fun v2 s => nwO s 9 (fun q3 s => bnd (F_X9_init N q3 s) (fun v4 s => H_L_law_18 N L xss N q1 q3 (0 : Int32) s))))) := rfl
end UROWS
section LOOP
variable {N : Nat} {m m' : vM} {s : vS}
def Ends (o : Option (Int32 × vS)) : Prop := ∃ m', o = some (1, S m')
theorem px_t {c : Prop} [Decidable c] {A B : Option (Int32 × vS)} (h : c) (k : Ends A) : Ends (if c then A else B) := by rw [if_pos h]; exact k
theorem px_f {c : Prop} [Decidable c] {A B : Option (Int32 × vS)} (h : ¬ c) (k : Ends B) : Ends (if c then A else B) := by rw [if_neg h]; exact k
theorem px_b {α : Type} {o : Option (α × vS)} {f : α → vS → Option (Int32 × vS)} {r : α} {s' : vS} (h : o = some (r, s')) (k : Ends (f r s')) : Ends (bnd o f) := by rw [h]; exact k
theorem px_s {L j : Nat} {xs : Nat → Int32} {x : Int32} {f : Int32 → Option (Int32 × vS)} (hL : L ≤ 2560) (h : x = nI j) (hj : j < L) (k : Ends (f (xs j))) : Ends (scr L xs x f) := by
  have e : scr L xs x f = f (xs j) := by
    unfold scr
    rw [h, nI_clamp (by omega), if_pos (fun w => w.elim (fun w => absurd w (nI_pos (by omega))) (fun w => by omega))]
  rw [e]
  exact k
theorem neg5 : ∀ L, L < 5 → nI L - 5 < 0 := by decide +kernel
theorem law_loop {L : Nat} {xs : Nat → Int32} (hN : 5000 ≤ N) (hL : L ≤ 2560) (hread : ∀ (m : vM) (x : Int32), Rel m → SameI (F_X8_read N 0 x) (F_X9_read N 322 x) m) : ∀ (d i n : Nat) (m : vM), L ≤ i + 5 * d → i ≤ L + 5 → d < n → Rel m → Ends (H_L_law_18 N L xs n 0 322 (nI i) (S m))
  | _, _, 0, _, _, _, h, _ => by omega
  | d, i, n + 1, m, hd, hi, hn, hR => by
    have stop : (nI L - 5 < nI i) → Ends (H_L_law_18 N L xs (n + 1) 0 322 (nI i) (S m)) := fun h => by
      refine ⟨m, ?_⟩
      refine Eq.trans u_H_L_law_18 ?_
      refine e_nm ?_
      exact e_t h rfl
    by_cases z : L < i + 5
    · refine stop ?_
      by_cases z5 : L < 5
      · exact Int32.lt_of_lt_of_le (neg5 L z5) (nI_pos' (by omega))
      · rw [subR (by show 5 ≤ L; omega), nI_ltI (by show L - 5 < _; omega) (by omega)]
        show L - 5 < i
        omega
    · obtain ⟨d, rfl⟩ : ∃ d', d = d' + 1 := ⟨d - 1, by omega⟩
      have nx : ∀ m2, Rel m2 → Ends (J_L_law_1251 N L xs (H_L_law_18 N L xs n) 0 322 (nI i) (S m2)) := fun m2 h2 => by
        have ih := law_loop (xs := xs) hN hL hread d (i + 5) n m2 (by omega) (by omega) (by omega) h2
        have e : J_L_law_1251 N L xs (H_L_law_18 N L xs n) 0 322 (nI i) (S m2) = H_L_law_18 N L xs n 0 322 (nI (i + 5)) (S m2) := by
          unfold J_L_law_1251
          refine e_nm ?_
          rw [addR]
        rw [e]
        exact ih
      have ns : ¬ (nI L - 5 < nI i) := by
        rw [subR (by show 5 ≤ L; omega), nI_ltI (by show L - 5 < _; omega) (by omega)]
        show ¬ L - 5 < i
        omega
      have a1 : nI i + 1 = nI (i + 1) := by rw [addR]
      have a2 : nI i + 2 = nI (i + 2) := by rw [addR]
      have a3 : nI i + 3 = nI (i + 3) := by rw [addR]
      have a4 : nI i + 4 = nI (i + 4) := by rw [addR]
      rw [u_H_L_law_18]
      have start : ∀ F : Int32 → Option (Int32 × vS), Ends (F (xs i &&& 31)) → Ends (nm (Int32.ofNat L) (fun v5 => if v5 - 5 < nI i then some (1, S m) else scr L xs (nI i) (fun v6 => nm (v6 &&& 31) F))) := fun F k => by
        show Ends (if nI L - 5 < nI i then some (1, S m) else scr L xs (nI i) (fun v6 => nm (v6 &&& 31) F))
        refine px_f ns ?_
        exact px_s hL rfl (by omega) k
      refine start _ ?_
      generalize xs i &&& 31 = w
      by_cases z0 : w = 0
      · obtain ⟨v, m1, m2, c1, c2, c3⟩ := call_flag (N := N) (by omega) hR (xs (i + 1)) (xs (i + 2))
        refine px_t z0 ?_
        refine px_s hL a1 (by omega) ?_
        refine px_s hL a2 (by omega) ?_
        refine px_b c1 ?_
        refine px_s hL a1 (by omega) ?_
        refine px_s hL a2 (by omega) ?_
        refine px_b c2 ?_
        refine px_t rfl ?_
        exact nx m2 c3
      refine px_f z0 ?_
      by_cases z1 : w = 1
      · obtain ⟨v, m1, m2, c1, c2, c3⟩ := call_rooted (N := N) (by omega) hR (xs (i + 1)) (xs (i + 2))
        refine px_t z1 ?_
        refine px_s hL a1 (by omega) ?_
        refine px_s hL a2 (by omega) ?_
        refine px_b c1 ?_
        refine px_s hL a1 (by omega) ?_
        refine px_s hL a2 (by omega) ?_
        refine px_b c2 ?_
        refine px_t rfl ?_
        exact nx m2 c3
      refine px_f z1 ?_
      by_cases z2 : w = 2
      · obtain ⟨v, m1, m2, c1, c2, c3⟩ := call_alike (N := N) hR (xs (i + 1)) (xs (i + 2)) (xs (i + 3))
        refine px_t z2 ?_
        refine px_s hL a1 (by omega) ?_
        refine px_s hL a2 (by omega) ?_
        refine px_s hL a3 (by omega) ?_
        refine px_b c1 ?_
        refine px_s hL a1 (by omega) ?_
        refine px_s hL a2 (by omega) ?_
        refine px_s hL a3 (by omega) ?_
        refine px_b c2 ?_
        refine px_t rfl ?_
        exact nx m2 c3
      refine px_f z2 ?_
      by_cases z3 : w = 3
      · obtain ⟨v, m1, m2, c1, c2, c3⟩ := call_inside (N := N) (by omega) hR (xs (i + 1)) (xs (i + 2)) (xs (i + 3))
        refine px_t z3 ?_
        refine px_s hL a1 (by omega) ?_
        refine px_s hL a2 (by omega) ?_
        refine px_s hL a3 (by omega) ?_
        refine px_b c1 ?_
        refine px_s hL a1 (by omega) ?_
        refine px_s hL a2 (by omega) ?_
        refine px_s hL a3 (by omega) ?_
        refine px_b c2 ?_
        refine px_t (lq.mpr rfl) ?_
        exact nx m2 c3
      refine px_f z3 ?_
      by_cases z4 : w = 4
      · obtain ⟨v, m1, m2, c1, c2, c3⟩ := call_joint (N := N) (by omega) hR (xs (i + 1)) (xs (i + 2)) (xs (i + 3)) (xs (i + 4))
        refine px_t z4 ?_
        refine px_s hL a1 (by omega) ?_
        refine px_s hL a2 (by omega) ?_
        refine px_s hL a3 (by omega) ?_
        refine px_s hL a4 (by omega) ?_
        refine px_b c1 ?_
        refine px_s hL a1 (by omega) ?_
        refine px_s hL a2 (by omega) ?_
        refine px_s hL a3 (by omega) ?_
        refine px_s hL a4 (by omega) ?_
        refine px_b c2 ?_
        refine px_t (lq.mpr rfl) ?_
        exact nx m2 c3
      refine px_f z4 ?_
      by_cases z5 : w = 5
      · obtain ⟨v, m1, m2, c1, c2, c3⟩ := call_jointRooted (N := N) (by omega) hR (xs (i + 1)) (xs (i + 2)) (xs (i + 3)) (xs (i + 4))
        refine px_t z5 ?_
        refine px_s hL a1 (by omega) ?_
        refine px_s hL a2 (by omega) ?_
        refine px_s hL a3 (by omega) ?_
        refine px_s hL a4 (by omega) ?_
        refine px_b c1 ?_
        refine px_s hL a1 (by omega) ?_
        refine px_s hL a2 (by omega) ?_
        refine px_s hL a3 (by omega) ?_
        refine px_s hL a4 (by omega) ?_
        refine px_b c2 ?_
        refine px_t (lq.mpr rfl) ?_
        exact nx m2 c3
      refine px_f z5 ?_
      by_cases z6 : w = 6
      · obtain ⟨v, m1, m2, c1, c2, c3⟩ := call_points (N := N) (by omega) hR (xs (i + 1))
        refine px_t z6 ?_
        refine px_s hL a1 (by omega) ?_
        refine px_b c1 ?_
        refine px_s hL a1 (by omega) ?_
        refine px_b c2 ?_
        refine px_t rfl ?_
        exact nx m2 c3
      refine px_f z6 ?_
      by_cases z7 : w = 7
      · obtain ⟨v, m1, m2, c1, c2, c3⟩ := call_line (N := N) (by omega) hR (xs (i + 1)) (xs (i + 2)) (xs (i + 3))
        refine px_t z7 ?_
        refine px_s hL a1 (by omega) ?_
        refine px_s hL a2 (by omega) ?_
        refine px_s hL a3 (by omega) ?_
        refine px_b c1 ?_
        refine px_s hL a1 (by omega) ?_
        refine px_s hL a2 (by omega) ?_
        refine px_s hL a3 (by omega) ?_
        refine px_b c2 ?_
        refine px_t rfl ?_
        exact nx m2 c3
      refine px_f z7 ?_
      by_cases z8 : w = 8
      · obtain ⟨v, m1, m2, c1, c2, c3⟩ := call_told (N := N) (by omega) hR (xs (i + 1))
        refine px_t z8 ?_
        refine px_s hL a1 (by omega) ?_
        refine px_b c1 ?_
        refine px_s hL a1 (by omega) ?_
        refine px_b c2 ?_
        refine px_t rfl ?_
        exact nx m2 c3
      refine px_f z8 ?_
      by_cases z9 : w = 9
      · obtain ⟨v, m1, m2, c1, c2, c3⟩ := call_beside (N := N) hR (xs (i + 1))
        refine px_t z9 ?_
        refine px_s hL a1 (by omega) ?_
        refine px_b c1 ?_
        refine px_s hL a1 (by omega) ?_
        refine px_b c2 ?_
        refine px_t rfl ?_
        exact nx m2 c3
      refine px_f z9 ?_
      by_cases z10 : w = 10
      · obtain ⟨v, m1, m2, c1, c2, c3⟩ := call_share (N := N) (by omega) hR (xs (i + 1)) (xs (i + 2))
        refine px_t z10 ?_
        refine px_s hL a1 (by omega) ?_
        refine px_s hL a2 (by omega) ?_
        refine px_b c1 ?_
        refine px_s hL a1 (by omega) ?_
        refine px_s hL a2 (by omega) ?_
        refine px_b c2 ?_
        refine px_t (lq.mpr rfl) ?_
        exact nx m2 c3
      refine px_f z10 ?_
      by_cases z11 : w = 11
      · obtain ⟨v, m1, m2, c1, c2, c3⟩ := call_shareAt (N := N) (by omega) hR (xs (i + 1)) (xs (i + 2)) (xs (i + 3))
        refine px_t z11 ?_
        refine px_s hL a1 (by omega) ?_
        refine px_s hL a2 (by omega) ?_
        refine px_s hL a3 (by omega) ?_
        refine px_b c1 ?_
        refine px_s hL a1 (by omega) ?_
        refine px_s hL a2 (by omega) ?_
        refine px_s hL a3 (by omega) ?_
        refine px_b c2 ?_
        refine px_t (lq.mpr rfl) ?_
        exact nx m2 c3
      refine px_f z11 ?_
      by_cases z12 : w = 12
      · obtain ⟨v, m1, m2, c1, c2, c3⟩ := call_maps (N := N) (by omega) hR (xs (i + 1))
        refine px_t z12 ?_
        refine px_s hL a1 (by omega) ?_
        refine px_b c1 ?_
        refine px_s hL a1 (by omega) ?_
        refine px_b c2 ?_
        refine px_t rfl ?_
        exact nx m2 c3
      refine px_f z12 ?_
      by_cases z13 : w = 13
      · obtain ⟨v, m1, m2, c1, c2, c3⟩ := call_rank (N := N) (by omega) hR (xs (i + 1)) (xs (i + 2))
        refine px_t z13 ?_
        refine px_s hL a1 (by omega) ?_
        refine px_s hL a2 (by omega) ?_
        refine px_b c1 ?_
        refine px_s hL a1 (by omega) ?_
        refine px_s hL a2 (by omega) ?_
        refine px_b c2 ?_
        refine px_t rfl ?_
        exact nx m2 c3
      refine px_f z13 ?_
      by_cases z14 : w = 14
      · obtain ⟨v, m1, m2, c1, c2, c3⟩ := call_found (N := N) (by omega) hR (xs (i + 1)) (xs (i + 2))
        refine px_t z14 ?_
        refine px_s hL a1 (by omega) ?_
        refine px_s hL a2 (by omega) ?_
        refine px_b c1 ?_
        refine px_s hL a1 (by omega) ?_
        refine px_s hL a2 (by omega) ?_
        refine px_b c2 ?_
        refine px_t rfl ?_
        exact nx m2 c3
      refine px_f z14 ?_
      by_cases z15 : w = 15
      · obtain ⟨v, m1, m2, c1, c2, c3⟩ := call_feed (N := N) hR (xs (i + 1))
        refine px_t z15 ?_
        refine px_s hL a1 (by omega) ?_
        refine px_b c1 ?_
        refine px_s hL a1 (by omega) ?_
        refine px_b c2 ?_
        refine px_t rfl ?_
        exact nx m2 c3
      refine px_f z15 ?_
      by_cases z16 : w = 16
      · obtain ⟨v, m1, m2, c1, c2, c3⟩ := hread m (xs (i + 1)) hR
        refine px_t z16 ?_
        refine px_s hL a1 (by omega) ?_
        refine px_b c1 ?_
        refine px_s hL a1 (by omega) ?_
        refine px_b c2 ?_
        refine px_t rfl ?_
        exact nx m2 c3
      refine px_f z16 ?_
      by_cases z17 : w = 17
      · obtain ⟨v, m1, m2, c1, c2, c3⟩ := call_clear (N := N) (by omega) hR (xs (i + 1))
        refine px_t z17 ?_
        refine px_s hL a1 (by omega) ?_
        refine px_b c1 ?_
        refine px_s hL a1 (by omega) ?_
        refine px_b c2 ?_
        refine px_t rfl ?_
        exact nx m2 c3
      refine px_f z17 ?_
      by_cases z18 : w = 18
      · obtain ⟨v, m1, m2, c1, c2, c3⟩ := call_sum (N := N) (by omega) hR (xs (i + 1)) (xs (i + 2))
        refine px_t z18 ?_
        refine px_s hL a1 (by omega) ?_
        refine px_s hL a2 (by omega) ?_
        refine px_b c1 ?_
        refine px_s hL a1 (by omega) ?_
        refine px_s hL a2 (by omega) ?_
        refine px_b c2 ?_
        refine px_t rfl ?_
        exact nx m2 c3
      refine px_f z18 ?_
      by_cases z19 : w = 19
      · obtain ⟨v, m1, m2, c1, c2, c3⟩ := call_term (N := N) (by omega) hR (xs (i + 1)) (xs (i + 2))
        refine px_t z19 ?_
        refine px_s hL a1 (by omega) ?_
        refine px_s hL a2 (by omega) ?_
        refine px_b c1 ?_
        refine px_s hL a1 (by omega) ?_
        refine px_s hL a2 (by omega) ?_
        refine px_b c2 ?_
        refine px_t rfl ?_
        exact nx m2 c3
      refine px_f z19 ?_
      by_cases z20 : w = 20
      · obtain ⟨v, m1, m2, c1, c2, c3⟩ := call_coefficient (N := N) (by omega) hR (xs (i + 1)) (xs (i + 2)) (xs (i + 3))
        refine px_t z20 ?_
        refine px_s hL a1 (by omega) ?_
        refine px_s hL a2 (by omega) ?_
        refine px_s hL a3 (by omega) ?_
        refine px_b c1 ?_
        refine px_s hL a1 (by omega) ?_
        refine px_s hL a2 (by omega) ?_
        refine px_s hL a3 (by omega) ?_
        refine px_b c2 ?_
        refine px_t (lq.mpr rfl) ?_
        exact nx m2 c3
      refine px_f z20 ?_
      by_cases z21 : w = 21
      · obtain ⟨v, m1, m2, c1, c2, c3⟩ := call_makes (N := N) (by omega) hR (xs (i + 1)) (xs (i + 2)) (xs (i + 3)) (xs (i + 4))
        refine px_t z21 ?_
        refine px_s hL a1 (by omega) ?_
        refine px_s hL a2 (by omega) ?_
        refine px_s hL a3 (by omega) ?_
        refine px_s hL a4 (by omega) ?_
        refine px_b c1 ?_
        refine px_s hL a1 (by omega) ?_
        refine px_s hL a2 (by omega) ?_
        refine px_s hL a3 (by omega) ?_
        refine px_s hL a4 (by omega) ?_
        refine px_b c2 ?_
        refine px_t rfl ?_
        exact nx m2 c3
      refine px_f z21 ?_
      by_cases z22 : w = 22
      · obtain ⟨v, m1, m2, c1, c2, c3⟩ := call_lift (N := N) (by omega) hR (xs (i + 1)) (xs (i + 2))
        refine px_t z22 ?_
        refine px_s hL a1 (by omega) ?_
        refine px_s hL a2 (by omega) ?_
        refine px_b c1 ?_
        refine px_s hL a1 (by omega) ?_
        refine px_s hL a2 (by omega) ?_
        refine px_b c2 ?_
        refine px_t rfl ?_
        exact nx m2 c3
      refine px_f z22 ?_
      by_cases z23 : w = 23
      · obtain ⟨v, m1, m2, c1, c2, c3⟩ := call_average (N := N) (by omega) hR (xs (i + 1))
        refine px_t z23 ?_
        refine px_s hL a1 (by omega) ?_
        refine px_b c1 ?_
        refine px_s hL a1 (by omega) ?_
        refine px_b c2 ?_
        refine px_t rfl ?_
        exact nx m2 c3
      refine px_f z23 ?_
      by_cases z24 : w = 24
      · obtain ⟨v, m1, m2, c1, c2, c3⟩ := call_bound (N := N) (by omega) hR (xs (i + 1)) (xs (i + 2)) (xs (i + 3)) (xs (i + 4))
        refine px_t z24 ?_
        refine px_s hL a1 (by omega) ?_
        refine px_s hL a2 (by omega) ?_
        refine px_s hL a3 (by omega) ?_
        refine px_s hL a4 (by omega) ?_
        refine px_b c1 ?_
        refine px_s hL a1 (by omega) ?_
        refine px_s hL a2 (by omega) ?_
        refine px_s hL a3 (by omega) ?_
        refine px_s hL a4 (by omega) ?_
        refine px_b c2 ?_
        refine px_t (lq.mpr rfl) ?_
        exact nx m2 c3
      refine px_f z24 ?_
      by_cases z25 : w = 25
      · obtain ⟨v, m1, m2, c1, c2, c3⟩ := call_value (N := N) (by omega) hR (xs (i + 1)) (xs (i + 2))
        refine px_t z25 ?_
        refine px_s hL a1 (by omega) ?_
        refine px_s hL a2 (by omega) ?_
        refine px_b c1 ?_
        refine px_s hL a1 (by omega) ?_
        refine px_s hL a2 (by omega) ?_
        refine px_b c2 ?_
        refine px_t (lq.mpr rfl) ?_
        exact nx m2 c3
      refine px_f z25 ?_
      by_cases z26 : w = 26
      · obtain ⟨v, m1, m2, c1, c2, c3⟩ := call_valueAt (N := N) (by omega) hR (xs (i + 1)) (xs (i + 2)) (xs (i + 3))
        refine px_t z26 ?_
        refine px_s hL a1 (by omega) ?_
        refine px_s hL a2 (by omega) ?_
        refine px_s hL a3 (by omega) ?_
        refine px_b c1 ?_
        refine px_s hL a1 (by omega) ?_
        refine px_s hL a2 (by omega) ?_
        refine px_s hL a3 (by omega) ?_
        refine px_b c2 ?_
        refine px_t (lq.mpr rfl) ?_
        exact nx m2 c3
      refine px_f z26 ?_
      by_cases z27 : w = 27
      · obtain ⟨v, m1, m2, c1, c2, c3⟩ := call_move (N := N) (by omega) hR (xs (i + 1)) (xs (i + 2))
        refine px_t z27 ?_
        refine px_s hL a1 (by omega) ?_
        refine px_s hL a2 (by omega) ?_
        refine px_b c1 ?_
        refine px_s hL a1 (by omega) ?_
        refine px_s hL a2 (by omega) ?_
        refine px_b c2 ?_
        refine px_t rfl ?_
        exact nx m2 c3
      refine px_f z27 ?_
      by_cases z28 : w = 28
      · obtain ⟨v, m1, m2, c1, c2, c3⟩ := call_film (N := N) (by omega) hR (xs (i + 1)) (xs (i + 2))
        refine px_t z28 ?_
        refine px_s hL a1 (by omega) ?_
        refine px_s hL a2 (by omega) ?_
        refine px_b c1 ?_
        refine px_s hL a1 (by omega) ?_
        refine px_s hL a2 (by omega) ?_
        refine px_b c2 ?_
        refine px_t rfl ?_
        exact nx m2 c3
      refine px_f z28 ?_
      by_cases z29 : w = 29
      · obtain ⟨v, m1, m2, c1, c2, c3⟩ := call_image (N := N) (by omega) hR 
        refine px_t z29 ?_
        refine px_b c1 ?_
        refine px_b c2 ?_
        refine px_t rfl ?_
        exact nx m2 c3
      refine px_f z29 ?_
      by_cases z30 : w = 30
      · obtain ⟨v, m1, m2, c1, c2, c3⟩ := call_back (N := N) (by omega) hR 
        refine px_t z30 ?_
        refine px_b c1 ?_
        refine px_b c2 ?_
        refine px_t rfl ?_
        exact nx m2 c3
      refine px_f z30 ?_
      by_cases z31 : w = 31
      · obtain ⟨v, m1, m2, c1, c2, c3⟩ := call_count (N := N) (by omega) hR (xs (i + 1))
        refine px_t z31 ?_
        refine px_s hL a1 (by omega) ?_
        refine px_b c1 ?_
        refine px_s hL a1 (by omega) ?_
        refine px_b c2 ?_
        refine px_t rfl ?_
        exact nx m2 c3
      refine px_f z31 ?_
      exact nx m hR
end LOOP
