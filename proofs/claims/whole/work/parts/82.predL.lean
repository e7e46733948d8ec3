def w_L_law_18 : Nat → Nat → (Nat → Int32) → Int32 → fp_G → (Int32 → fp_G → Prop) → Prop
  | 0, _, _, _, _, _ => False
  | n + 1, N, xs, x3, g, K =>
    if ((Int32.ofNat N) - 6) < x3 then
      K 1 g
    else
      fp_rd xs N x3 fun v1 =>
      fp_j (fun (g1 : fp_G) =>
          w_L_law_18 n N xs (x3 + 6) g1 K) fun J1348 =>
      if (v1 &&& 63) = 0 then
        fp_rd xs N (x3 + 1) fun v2 =>
        fp_rd xs N (x3 + 2) fun v3 =>
        fp_j (fun (z0j203 : Int32) =>
            w_X8_office v2 z0j203 g fun v4 g2 =>
            fp_rd xs N (x3 + 1) fun v5 =>
            fp_rd xs N (x3 + 2) fun v6 =>
            fp_j (fun (z0j225 : Int32) =>
                w_X9_office v5 z0j225 g2 fun v7 g3 =>
                if v4 = v7 then
                  J1348 g3
                else
                  K 0 g3) fun J225 =>
            if v6 = 0 then
              J225 0
            else
              J225 1) fun J203 =>
        if v3 = 0 then
          J203 0
        else
          J203 1
      else if (v1 &&& 63) = 1 then
        fp_rd xs N (x3 + 1) fun v8 =>
        fp_rd xs N (x3 + 2) fun v9 =>
        fp_rd xs N (x3 + 3) fun v10 =>
        fp_j (fun (z0j257 : Int32) =>
            w_X8_staff v8 v9 z0j257 g fun v11 g4 =>
            fp_rd xs N (x3 + 1) fun v12 =>
            fp_rd xs N (x3 + 2) fun v13 =>
            fp_rd xs N (x3 + 3) fun v14 =>
            fp_j (fun (z0j284 : Int32) =>
                w_X9_staff v12 v13 z0j284 g4 fun v15 g5 =>
                if v11 = v15 then
                  J1348 g5
                else
                  K 0 g5) fun J284 =>
            if v14 = 0 then
              J284 0
            else
              J284 1) fun J257 =>
        if v10 = 0 then
          J257 0
        else
          J257 1
      else if (v1 &&& 63) = 2 then
        fp_rd xs N (x3 + 1) fun v16 =>
        fp_rd xs N (x3 + 2) fun v17 =>
        fp_rd xs N (x3 + 3) fun v18 =>
        fp_rd xs N (x3 + 4) fun v19 =>
        fp_rd xs N (x3 + 5) fun v20 =>
        w_X8_way v16 v17 v18 v19 v20 g fun v21 g6 =>
        fp_rd xs N (x3 + 1) fun v22 =>
        fp_rd xs N (x3 + 2) fun v23 =>
        fp_rd xs N (x3 + 3) fun v24 =>
        fp_rd xs N (x3 + 4) fun v25 =>
        fp_rd xs N (x3 + 5) fun v26 =>
        w_X9_way v22 v23 v24 v25 v26 g6 fun v27 g7 =>
        if v21 = v27 then
          J1348 g7
        else
          K 0 g7
      else if (v1 &&& 63) = 3 then
        fp_rd xs N (x3 + 1) fun v28 =>
        fp_rd xs N (x3 + 2) fun v29 =>
        fp_rd xs N (x3 + 3) fun v30 =>
        w_X8_shut v28 v29 v30 g fun v31 g8 =>
        fp_rd xs N (x3 + 1) fun v32 =>
        fp_rd xs N (x3 + 2) fun v33 =>
        fp_rd xs N (x3 + 3) fun v34 =>
        w_X9_shut v32 v33 v34 g8 fun v35 g9 =>
        if v31 = v35 then
          J1348 g9
        else
          K 0 g9
      else if (v1 &&& 63) = 4 then
        fp_rd xs N (x3 + 1) fun v36 =>
        fp_rd xs N (x3 + 2) fun v37 =>
        w_X8_far v36 v37 g fun v38 g10 =>
        fp_rd xs N (x3 + 1) fun v39 =>
        fp_rd xs N (x3 + 2) fun v40 =>
        w_X9_far v39 v40 g10 fun v41 g11 =>
        if v38 = v41 then
          J1348 g11
        else
          K 0 g11
      else if (v1 &&& 63) = 5 then
        fp_rd xs N (x3 + 1) fun v42 =>
        w_X8_late v42 g fun v43 g12 =>
        fp_rd xs N (x3 + 1) fun v44 =>
        w_X9_late v44 g12 fun v45 g13 =>
        if v43 = v45 then
          J1348 g13
        else
          K 0 g13
      else if (v1 &&& 63) = 6 then
        fp_rd xs N (x3 + 1) fun v46 =>
        w_X8_hours v46 g fun v47 g14 =>
        fp_rd xs N (x3 + 1) fun v48 =>
        w_X9_hours v48 g14 fun v49 g15 =>
        if v47 = v49 then
          J1348 g15
        else
          K 0 g15
      else if (v1 &&& 63) = 7 then
        fp_rd xs N (x3 + 1) fun v50 =>
        fp_rd xs N (x3 + 2) fun v51 =>
        fp_rd xs N (x3 + 3) fun v52 =>
        w_X8_move v50 v51 v52 g fun v53 g16 =>
        fp_rd xs N (x3 + 1) fun v54 =>
        fp_rd xs N (x3 + 2) fun v55 =>
        fp_rd xs N (x3 + 3) fun v56 =>
        w_X9_move v54 v55 v56 g16 fun v57 g17 =>
        if v53 = v57 then
          J1348 g17
        else
          K 0 g17
      else if (v1 &&& 63) = 8 then
        fp_rd xs N (x3 + 1) fun v58 =>
        fp_rd xs N (x3 + 2) fun v59 =>
        w_X8_is v58 v59 g fun v60 g18 =>
        fp_rd xs N (x3 + 1) fun v61 =>
        fp_rd xs N (x3 + 2) fun v62 =>
        w_X9_is v61 v62 g18 fun v63 g19 =>
        if v60 = v63 then
          J1348 g19
        else
          K 0 g19
      else if (v1 &&& 63) = 9 then
        fp_rd xs N (x3 + 1) fun v64 =>
        fp_rd xs N (x3 + 2) fun v65 =>
        fp_rd xs N (x3 + 3) fun v66 =>
        w_X8_list v64 v65 v66 g fun v67 g20 =>
        fp_rd xs N (x3 + 1) fun v68 =>
        fp_rd xs N (x3 + 2) fun v69 =>
        fp_rd xs N (x3 + 3) fun v70 =>
        w_X9_list v68 v69 v70 g20 fun v71 g21 =>
        if v67 = v71 then
          J1348 g21
        else
          K 0 g21
      else if (v1 &&& 63) = 10 then
        fp_rd xs N (x3 + 1) fun v72 =>
        fp_rd xs N (x3 + 2) fun v73 =>
        w_X8_man v72 v73 g fun v74 g22 =>
        fp_rd xs N (x3 + 1) fun v75 =>
        fp_rd xs N (x3 + 2) fun v76 =>
        w_X9_man v75 v76 g22 fun v77 g23 =>
        if v74 = v77 then
          J1348 g23
        else
          K 0 g23
      else if (v1 &&& 63) = 11 then
        fp_rd xs N (x3 + 1) fun v78 =>
        fp_rd xs N (x3 + 2) fun v79 =>
        fp_rd xs N (x3 + 3) fun v80 =>
        w_X8_state v78 v79 v80 g fun v81 g24 =>
        fp_rd xs N (x3 + 1) fun v82 =>
        fp_rd xs N (x3 + 2) fun v83 =>
        fp_rd xs N (x3 + 3) fun v84 =>
        w_X9_state v82 v83 v84 g24 fun v85 g25 =>
        if v81 = v85 then
          J1348 g25
        else
          K 0 g25
      else if (v1 &&& 63) = 12 then
        fp_rd xs N (x3 + 1) fun v86 =>
        fp_rd xs N (x3 + 2) fun v87 =>
        fp_rd xs N (x3 + 3) fun v88 =>
        w_X8_stateOf v86 v87 v88 g fun v89 g26 =>
        fp_rd xs N (x3 + 1) fun v90 =>
        fp_rd xs N (x3 + 2) fun v91 =>
        fp_rd xs N (x3 + 3) fun v92 =>
        w_X9_stateOf v90 v91 v92 g26 fun v93 g27 =>
        if v89 = v93 then
          J1348 g27
        else
          K 0 g27
      else if (v1 &&& 63) = 13 then
        fp_rd xs N (x3 + 1) fun v94 =>
        w_X8_manAt v94 g fun v95 g28 =>
        fp_rd xs N (x3 + 1) fun v96 =>
        w_X9_manAt v96 g28 fun v97 g29 =>
        if v95 = v97 then
          J1348 g29
        else
          K 0 g29
      else if (v1 &&& 63) = 14 then
        fp_rd xs N (x3 + 1) fun v98 =>
        fp_rd xs N (x3 + 2) fun v99 =>
        fp_rd xs N (x3 + 3) fun v100 =>
        fp_rd xs N (x3 + 4) fun v101 =>
        w_X8_mail v98 v99 v100 v101 g fun v102 g30 =>
        fp_rd xs N (x3 + 1) fun v103 =>
        fp_rd xs N (x3 + 2) fun v104 =>
        fp_rd xs N (x3 + 3) fun v105 =>
        fp_rd xs N (x3 + 4) fun v106 =>
        w_X9_mail v103 v104 v105 v106 g30 fun v107 g31 =>
        if v102 = v107 then
          J1348 g31
        else
          K 0 g31
      else if (v1 &&& 63) = 15 then
        fp_rd xs N (x3 + 1) fun v108 =>
        fp_rd xs N (x3 + 2) fun v109 =>
        fp_rd xs N (x3 + 3) fun v110 =>
        w_X8_feed v108 ((((v109 : Int32).toInt64) <<< ((32 : Int32).toInt64 &&& 63)) ||| (((v110 : Int32).toInt64) &&& 4294967295)) g fun v111 g32 =>
        fp_rd xs N (x3 + 1) fun v112 =>
        fp_rd xs N (x3 + 2) fun v113 =>
        fp_rd xs N (x3 + 3) fun v114 =>
        w_X9_feed v112 ((((v113 : Int32).toInt64) <<< ((32 : Int32).toInt64 &&& 63)) ||| (((v114 : Int32).toInt64) &&& 4294967295)) g32 fun v115 g33 =>
        if v111 = v115 then
          J1348 g33
        else
          K 0 g33
      else if (v1 &&& 63) = 16 then
        fp_rd xs N (x3 + 1) fun v116 =>
        w_X8_order v116 g fun v117 g34 =>
        fp_rd xs N (x3 + 1) fun v118 =>
        w_X9_order v118 g34 fun v119 g35 =>
        if v117 = v119 then
          J1348 g35
        else
          K 0 g35
      else if (v1 &&& 63) = 17 then
        fp_rd xs N (x3 + 1) fun v120 =>
        fp_rd xs N (x3 + 2) fun v121 =>
        w_X8_holds v120 v121 g fun v122 g36 =>
        fp_rd xs N (x3 + 1) fun v123 =>
        fp_rd xs N (x3 + 2) fun v124 =>
        w_X9_holds v123 v124 g36 fun v125 g37 =>
        if v122 = v125 then
          J1348 g37
        else
          K 0 g37
      else if (v1 &&& 63) = 18 then
        fp_rd xs N (x3 + 1) fun v126 =>
        w_X8_keep v126 g fun v127 g38 =>
        fp_rd xs N (x3 + 1) fun v128 =>
        w_X9_keep v128 g38 fun v129 g39 =>
        if v127 = v129 then
          J1348 g39
        else
          K 0 g39
      else if (v1 &&& 63) = 19 then
        fp_rd xs N (x3 + 1) fun v130 =>
        fp_rd xs N (x3 + 2) fun v131 =>
        w_X8_mailOf v130 v131 g fun v132 g40 =>
        fp_rd xs N (x3 + 1) fun v133 =>
        fp_rd xs N (x3 + 2) fun v134 =>
        w_X9_mailOf v133 v134 g40 fun v135 g41 =>
        if v132 = v135 then
          J1348 g41
        else
          K 0 g41
      else if (v1 &&& 63) = 20 then
        fp_rd xs N (x3 + 1) fun v136 =>
        w_X8_goal v136 g fun v137 g42 =>
        fp_rd xs N (x3 + 1) fun v138 =>
        w_X9_goal v138 g42 fun v139 g43 =>
        if v137 = v139 then
          J1348 g43
        else
          K 0 g43
      else if (v1 &&& 63) = 21 then
        fp_rd xs N (x3 + 1) fun v140 =>
        w_X8_next v140 g fun v141 g44 =>
        fp_rd xs N (x3 + 1) fun v142 =>
        w_X9_next v142 g44 fun v143 g45 =>
        if v141 = v143 then
          J1348 g45
        else
          K 0 g45
      else if (v1 &&& 63) = 22 then
        fp_rd xs N (x3 + 1) fun v144 =>
        fp_rd xs N (x3 + 2) fun v145 =>
        w_X8_trace v144 v145 g fun v146 g46 =>
        fp_rd xs N (x3 + 1) fun v147 =>
        fp_rd xs N (x3 + 2) fun v148 =>
        w_X9_trace v147 v148 g46 fun v149 g47 =>
        if v146 = v149 then
          J1348 g47
        else
          K 0 g47
      else if (v1 &&& 63) = 23 then
        fp_rd xs N (x3 + 1) fun v150 =>
        w_X8_fro v150 g fun v151 g48 =>
        fp_rd xs N (x3 + 1) fun v152 =>
        w_X9_fro v152 g48 fun v153 g49 =>
        if v151 = v153 then
          J1348 g49
        else
          K 0 g49
      else if (v1 &&& 63) = 24 then
        fp_rd xs N (x3 + 1) fun v154 =>
        fp_rd xs N (x3 + 2) fun v155 =>
        w_X8_after v154 v155 g fun v156 g50 =>
        fp_rd xs N (x3 + 1) fun v157 =>
        fp_rd xs N (x3 + 2) fun v158 =>
        w_X9_after v157 v158 g50 fun v159 g51 =>
        if v156 = v159 then
          J1348 g51
        else
          K 0 g51
      else if (v1 &&& 63) = 25 then
        fp_rd xs N (x3 + 1) fun v160 =>
        w_X8_paid v160 g fun v161 g52 =>
        fp_rd xs N (x3 + 1) fun v162 =>
        w_X9_paid v162 g52 fun v163 g53 =>
        if v161 = v163 then
          J1348 g53
        else
          K 0 g53
      else if (v1 &&& 63) = 26 then
        fp_rd xs N (x3 + 1) fun v164 =>
        fp_rd xs N (x3 + 2) fun v165 =>
        w_X8_cover v164 v165 g fun v166 g54 =>
        fp_rd xs N (x3 + 1) fun v167 =>
        fp_rd xs N (x3 + 2) fun v168 =>
        w_X9_cover v167 v168 g54 fun v169 g55 =>
        if v166 = v169 then
          J1348 g55
        else
          K 0 g55
      else if (v1 &&& 63) = 27 then
        fp_rd xs N (x3 + 1) fun v170 =>
        fp_rd xs N (x3 + 2) fun v171 =>
        w_X8_sure v170 v171 g fun v172 g56 =>
        fp_rd xs N (x3 + 1) fun v173 =>
        fp_rd xs N (x3 + 2) fun v174 =>
        w_X9_sure v173 v174 g56 fun v175 g57 =>
        if v172 = v175 then
          J1348 g57
        else
          K 0 g57
      else if (v1 &&& 63) = 28 then
        fp_rd xs N (x3 + 1) fun v176 =>
        fp_rd xs N (x3 + 2) fun v177 =>
        fp_rd xs N (x3 + 3) fun v178 =>
        w_X8_sack v176 v177 v178 g fun v179 g58 =>
        fp_rd xs N (x3 + 1) fun v180 =>
        fp_rd xs N (x3 + 2) fun v181 =>
        fp_rd xs N (x3 + 3) fun v182 =>
        w_X9_sack v180 v181 v182 g58 fun v183 g59 =>
        if v179 = v183 then
          J1348 g59
        else
          K 0 g59
      else if (v1 &&& 63) = 29 then
        fp_rd xs N (x3 + 1) fun v184 =>
        w_X8_best v184 g fun v185 g60 =>
        fp_rd xs N (x3 + 1) fun v186 =>
        w_X9_best v186 g60 fun v187 g61 =>
        if v185 = v187 then
          J1348 g61
        else
          K 0 g61
      else if (v1 &&& 63) = 30 then
        fp_rd xs N (x3 + 1) fun v188 =>
        w_X8_put v188 g fun v189 g62 =>
        fp_rd xs N (x3 + 1) fun v190 =>
        w_X9_put v190 g62 fun v191 g63 =>
        if v189 = v191 then
          J1348 g63
        else
          K 0 g63
      else if (v1 &&& 63) = 31 then
        fp_rd xs N (x3 + 1) fun v192 =>
        w_X8_judge v192 g fun v193 g64 =>
        fp_rd xs N (x3 + 1) fun v194 =>
        w_X9_judge v194 g64 fun v195 g65 =>
        if v193 = v195 then
          J1348 g65
        else
          K 0 g65
      else if (v1 &&& 63) = 32 then
        fp_rd xs N (x3 + 1) fun v196 =>
        w_X8_waiting v196 g fun v197 g66 =>
        fp_rd xs N (x3 + 1) fun v198 =>
        w_X9_waiting v198 g66 fun v199 g67 =>
        if v197 = v199 then
          J1348 g67
        else
          K 0 g67
      else if (v1 &&& 63) = 33 then
        fp_rd xs N (x3 + 1) fun v200 =>
        w_X8_count v200 g fun v201 g68 =>
        fp_rd xs N (x3 + 1) fun v202 =>
        w_X9_count v202 g68 fun v203 g69 =>
        if v201 = v203 then
          J1348 g69
        else
          K 0 g69
      else J1348 g
