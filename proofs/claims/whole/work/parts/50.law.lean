/-! THE LAW -/
def sc_ {β : Type} (xs : Nat → Int32) (L : Nat) (i : Int32) (K : Int32 → Option β) : Option β := if ¬ (i < 0 ∨ L ≤ i.toNatClampNeg) then K (xs i.toNatClampNeg) else none
def f_law (xs : Nat → Int32) (L : Nat) (S : St) : Option Unit :=
  nw_ S 8 fun a1 S2 =>
  cV_ (f_X8_init S2 a1) fun S3 =>
  nw_ S3 9 fun a4 S5 =>
  cV_ (f_X9_init S5 a4) fun S6 =>
  lp_ (fun self7 (x7 : Int32 × St) =>
    lt_ ((Int32.ofNat L) - 4 : Int32) fun v8 =>
    if v8 < x7.1 then
      rt_ ()
    else
      sc_ xs L x7.1 fun v9 =>
      lt_ (v9 &&& 31 : Int32) fun v10 =>
      jn_ (fun (x11 : St) =>
        lt_ (x7.1 + 4) fun v12 =>
        self7 (v12, x11)
      ) fun j11 =>
      if v10 = 0 then
        lt_ (x7.1 + 1 : Int32) fun v13 =>
        sc_ xs L v13 fun v14 =>
        lt_ (Int32.toInt64 v14) fun v15 =>
        lt_ (v15 <<< (Int32.toInt64 32 &&& 63) : Int64) fun v16 =>
        lt_ (x7.1 + 2 : Int32) fun v17 =>
        sc_ xs L v17 fun v18 =>
        lt_ (Int32.toInt64 v18) fun v19 =>
        lt_ (v19 &&& 4294967295 : Int64) fun v20 =>
        lt_ (v16 ||| v20 : Int64) fun v21 =>
        ck_ x7.2 a1 8 <| cI_ (f_X8_tell x7.2 a1 v21) fun v23 S22 =>
        lt_ (x7.1 + 1 : Int32) fun v24 =>
        sc_ xs L v24 fun v25 =>
        lt_ (Int32.toInt64 v25) fun v26 =>
        lt_ (v26 <<< (Int32.toInt64 32 &&& 63) : Int64) fun v27 =>
        lt_ (x7.1 + 2 : Int32) fun v28 =>
        sc_ xs L v28 fun v29 =>
        lt_ (Int32.toInt64 v29) fun v30 =>
        lt_ (v30 &&& 4294967295 : Int64) fun v31 =>
        lt_ (v27 ||| v31 : Int64) fun v32 =>
        ck_ S22 a4 9 <| cI_ (f_X9_tell S22 a4 v32) fun v34 S33 =>
        if v23 = v34 then
          j11 (S33)
        else
          none
      else
      if v10 = 1 then
        ck_ x7.2 a1 8 <| cI_ (f_X8_ring x7.2 a1) fun v36 S35 =>
        ck_ S35 a4 9 <| cI_ (f_X9_ring S35 a4) fun v38 S37 =>
        if v36 = v38 then
          j11 (S37)
        else
          none
      else
      if v10 = 2 then
        ck_ x7.2 a1 8 <| cI_ (f_X8_script x7.2 a1) fun v40 S39 =>
        ck_ S39 a4 9 <| cI_ (f_X9_script S39 a4) fun v42 S41 =>
        if v40 = v42 then
          j11 (S41)
        else
          none
      else
      if v10 = 3 then
        lt_ (x7.1 + 1 : Int32) fun v43 =>
        sc_ xs L v43 fun v44 =>
        jn_ (fun (x45 : Int32) =>
          ck_ x7.2 a1 8 <| cP_ (f_X8_fault x7.2 a1 x45) fun v46 =>
          lt_ (x7.1 + 1 : Int32) fun v47 =>
          sc_ xs L v47 fun v48 =>
          jn_ (fun (x49 : Int32) =>
            ck_ x7.2 a4 9 <| cI_ (f_X9_fault x7.2 a4 x49) fun v51 S50 =>
            if v46 = v51 then
              j11 (S50)
            else
              none
          ) fun j49 =>
          if v48 = 0 then
            j49 (0)
          else
            j49 (1)
        ) fun j45 =>
        if v44 = 0 then
          j45 (0)
        else
          j45 (1)
      else
      if v10 = 4 then
        lt_ (x7.1 + 1 : Int32) fun v52 =>
        sc_ xs L v52 fun v53 =>
        ck_ x7.2 a1 8 <| cI_ (f_X8_tick x7.2 a1 v53) fun v55 S54 =>
        lt_ (x7.1 + 1 : Int32) fun v56 =>
        sc_ xs L v56 fun v57 =>
        ck_ S54 a4 9 <| cI_ (f_X9_tick S54 a4 v57) fun v59 S58 =>
        if v55 = v59 then
          j11 (S58)
        else
          none
      else
      if v10 = 5 then
        lt_ (x7.1 + 1 : Int32) fun v60 =>
        sc_ xs L v60 fun v61 =>
        lt_ (x7.1 + 2 : Int32) fun v62 =>
        sc_ xs L v62 fun v63 =>
        ck_ x7.2 a1 8 <| cI_ (f_X8_take x7.2 a1 v61 v63) fun v65 S64 =>
        lt_ (x7.1 + 1 : Int32) fun v66 =>
        sc_ xs L v66 fun v67 =>
        lt_ (x7.1 + 2 : Int32) fun v68 =>
        sc_ xs L v68 fun v69 =>
        ck_ S64 a4 9 <| cI_ (f_X9_take S64 a4 v67 v69) fun v71 S70 =>
        if v65 = v71 then
          j11 (S70)
        else
          none
      else
      if v10 = 6 then
        lt_ (x7.1 + 1 : Int32) fun v72 =>
        sc_ xs L v72 fun v73 =>
        lt_ (x7.1 + 2 : Int32) fun v74 =>
        sc_ xs L v74 fun v75 =>
        ck_ x7.2 a1 8 <| cI_ (f_X8_put x7.2 a1 v73 v75) fun v77 S76 =>
        lt_ (x7.1 + 1 : Int32) fun v78 =>
        sc_ xs L v78 fun v79 =>
        lt_ (x7.1 + 2 : Int32) fun v80 =>
        sc_ xs L v80 fun v81 =>
        ck_ S76 a4 9 <| cI_ (f_X9_put S76 a4 v79 v81) fun v83 S82 =>
        if v77 = v83 then
          j11 (S82)
        else
          none
      else
      if v10 = 7 then
        lt_ (x7.1 + 1 : Int32) fun v84 =>
        sc_ xs L v84 fun v85 =>
        ck_ x7.2 a1 8 <| cI_ (f_X8_end x7.2 a1 v85) fun v87 S86 =>
        lt_ (x7.1 + 1 : Int32) fun v88 =>
        sc_ xs L v88 fun v89 =>
        ck_ S86 a4 9 <| cI_ (f_X9_end S86 a4 v89) fun v91 S90 =>
        if v87 = v91 then
          j11 (S90)
        else
          none
      else
      if v10 = 8 then
        lt_ (x7.1 + 1 : Int32) fun v92 =>
        sc_ xs L v92 fun v93 =>
        ck_ x7.2 a1 8 <| cI_ (f_X8_drop x7.2 a1 v93) fun v95 S94 =>
        lt_ (x7.1 + 1 : Int32) fun v96 =>
        sc_ xs L v96 fun v97 =>
        ck_ S94 a4 9 <| cI_ (f_X9_drop S94 a4 v97) fun v99 S98 =>
        if v95 = v99 then
          j11 (S98)
        else
          none
      else
      if v10 = 9 then
        lt_ (x7.1 + 1 : Int32) fun v100 =>
        sc_ xs L v100 fun v101 =>
        jn_ (fun (x102 : Int32) =>
          ck_ x7.2 a1 8 <| cI_ (f_X8_swap x7.2 a1 x102) fun v104 S103 =>
          lt_ (x7.1 + 1 : Int32) fun v105 =>
          sc_ xs L v105 fun v106 =>
          jn_ (fun (x107 : Int32) =>
            ck_ S103 a4 9 <| cI_ (f_X9_swap S103 a4 x107) fun v109 S108 =>
            if v104 = v109 then
              j11 (S108)
            else
              none
          ) fun j107 =>
          if v106 = 0 then
            j107 (0)
          else
            j107 (1)
        ) fun j102 =>
        if v101 = 0 then
          j102 (0)
        else
          j102 (1)
      else
      if v10 = 10 then
        ck_ x7.2 a1 8 <| cI_ (f_X8_read x7.2 a1) fun v111 S110 =>
        ck_ S110 a4 9 <| cI_ (f_X9_read S110 a4) fun v113 S112 =>
        if v111 = v113 then
          j11 (S112)
        else
          none
      else
      if v10 = 11 then
        lt_ (x7.1 + 1 : Int32) fun v114 =>
        sc_ xs L v114 fun v115 =>
        jn_ (fun (x116 : Int32) =>
          ck_ x7.2 a1 8 <| cI_ (f_X8_mode x7.2 a1 x116) fun v118 S117 =>
          lt_ (x7.1 + 1 : Int32) fun v119 =>
          sc_ xs L v119 fun v120 =>
          jn_ (fun (x121 : Int32) =>
            ck_ S117 a4 9 <| cI_ (f_X9_mode S117 a4 x121) fun v123 S122 =>
            if v118 = v123 then
              j11 (S122)
            else
              none
          ) fun j121 =>
          if v120 = 0 then
            j121 (0)
          else
            j121 (1)
        ) fun j116 =>
        if v115 = 0 then
          j116 (0)
        else
          j116 (1)
      else
      if v10 = 12 then
        lt_ (x7.1 + 1 : Int32) fun v124 =>
        sc_ xs L v124 fun v125 =>
        ck_ x7.2 a1 8 <| cI_ (f_X8_mask x7.2 a1 v125) fun v127 S126 =>
        lt_ (x7.1 + 1 : Int32) fun v128 =>
        sc_ xs L v128 fun v129 =>
        ck_ S126 a4 9 <| cI_ (f_X9_mask S126 a4 v129) fun v131 S130 =>
        if v127 = v131 then
          j11 (S130)
        else
          none
      else
      if v10 = 13 then
        lt_ (x7.1 + 1 : Int32) fun v132 =>
        sc_ xs L v132 fun v133 =>
        ck_ x7.2 a1 8 <| cI_ (f_X8_resize x7.2 a1 v133) fun v135 S134 =>
        lt_ (x7.1 + 1 : Int32) fun v136 =>
        sc_ xs L v136 fun v137 =>
        ck_ S134 a4 9 <| cI_ (f_X9_resize S134 a4 v137) fun v139 S138 =>
        if v135 = v139 then
          j11 (S138)
        else
          none
      else
      if v10 = 14 then
        lt_ (x7.1 + 1 : Int32) fun v140 =>
        sc_ xs L v140 fun v141 =>
        lt_ (x7.1 + 2 : Int32) fun v142 =>
        sc_ xs L v142 fun v143 =>
        ck_ x7.2 a1 8 <| cI_ (f_X8_storm x7.2 a1 v141 v143) fun v145 S144 =>
        lt_ (x7.1 + 1 : Int32) fun v146 =>
        sc_ xs L v146 fun v147 =>
        lt_ (x7.1 + 2 : Int32) fun v148 =>
        sc_ xs L v148 fun v149 =>
        ck_ S144 a4 9 <| cI_ (f_X9_storm S144 a4 v147 v149) fun v151 S150 =>
        if v145 = v151 then
          j11 (S150)
        else
          none
      else
      if v10 = 15 then
        lt_ (x7.1 + 1 : Int32) fun v152 =>
        sc_ xs L v152 fun v153 =>
        ck_ x7.2 a1 8 <| cP_ (f_X8_count x7.2 a1 v153) fun v154 =>
        lt_ (x7.1 + 1 : Int32) fun v155 =>
        sc_ xs L v155 fun v156 =>
        ck_ x7.2 a4 9 <| cI_ (f_X9_count x7.2 a4 v156) fun v158 S157 =>
        if v154 = v158 then
          j11 (S157)
        else
          none
      else
      if v10 = 16 then
        lt_ (x7.1 + 1 : Int32) fun v159 =>
        sc_ xs L v159 fun v160 =>
        lt_ (x7.1 + 2 : Int32) fun v161 =>
        sc_ xs L v161 fun v162 =>
        ck_ x7.2 a1 8 <| cP_ (f_X8_page x7.2 a1 v160 v162) fun v163 =>
        lt_ (x7.1 + 1 : Int32) fun v164 =>
        sc_ xs L v164 fun v165 =>
        lt_ (x7.1 + 2 : Int32) fun v166 =>
        sc_ xs L v166 fun v167 =>
        ck_ x7.2 a4 9 <| cI_ (f_X9_page x7.2 a4 v165 v167) fun v169 S168 =>
        if v163 = v169 then
          j11 (S168)
        else
          none
      else
      if v10 = 17 then
        lt_ (x7.1 + 1 : Int32) fun v170 =>
        sc_ xs L v170 fun v171 =>
        lt_ (x7.1 + 2 : Int32) fun v172 =>
        sc_ xs L v172 fun v173 =>
        ck_ x7.2 a1 8 <| cP_ (f_X8_cell x7.2 a1 v171 v173) fun v174 =>
        lt_ (x7.1 + 1 : Int32) fun v175 =>
        sc_ xs L v175 fun v176 =>
        lt_ (x7.1 + 2 : Int32) fun v177 =>
        sc_ xs L v177 fun v178 =>
        ck_ x7.2 a4 9 <| cI_ (f_X9_cell x7.2 a4 v176 v178) fun v180 S179 =>
        if v174 = v180 then
          j11 (S179)
        else
          none
      else
      if v10 = 18 then
        lt_ (x7.1 + 1 : Int32) fun v181 =>
        sc_ xs L v181 fun v182 =>
        lt_ (x7.1 + 2 : Int32) fun v183 =>
        sc_ xs L v183 fun v184 =>
        ck_ x7.2 a1 8 <| cP_ (f_X8_open x7.2 a1 v182 v184) fun v185 =>
        lt_ (x7.1 + 1 : Int32) fun v186 =>
        sc_ xs L v186 fun v187 =>
        lt_ (x7.1 + 2 : Int32) fun v188 =>
        sc_ xs L v188 fun v189 =>
        ck_ x7.2 a4 9 <| cI_ (f_X9_open x7.2 a4 v187 v189) fun v191 S190 =>
        if v185 = v191 then
          j11 (S190)
        else
          none
      else
      if v10 = 19 then
        lt_ (x7.1 + 1 : Int32) fun v192 =>
        sc_ xs L v192 fun v193 =>
        lt_ (x7.1 + 2 : Int32) fun v194 =>
        sc_ xs L v194 fun v195 =>
        ck_ x7.2 a1 8 <| cP_ (f_X8_record x7.2 a1 v193 v195) fun v196 =>
        lt_ (x7.1 + 1 : Int32) fun v197 =>
        sc_ xs L v197 fun v198 =>
        lt_ (x7.1 + 2 : Int32) fun v199 =>
        sc_ xs L v199 fun v200 =>
        ck_ x7.2 a4 9 <| cI_ (f_X9_record x7.2 a4 v198 v200) fun v202 S201 =>
        if v196 = v202 then
          j11 (S201)
        else
          none
      else
      if v10 = 20 then
        lt_ (x7.1 + 1 : Int32) fun v203 =>
        sc_ xs L v203 fun v204 =>
        ck_ x7.2 a1 8 <| cP_ (f_X8_latest x7.2 a1 v204) fun v205 =>
        lt_ (x7.1 + 1 : Int32) fun v206 =>
        sc_ xs L v206 fun v207 =>
        ck_ x7.2 a4 9 <| cI_ (f_X9_latest x7.2 a4 v207) fun v209 S208 =>
        if v205 = v209 then
          j11 (S208)
        else
          none
      else
      if v10 = 21 then
        lt_ (x7.1 + 1 : Int32) fun v210 =>
        sc_ xs L v210 fun v211 =>
        lt_ (x7.1 + 2 : Int32) fun v212 =>
        sc_ xs L v212 fun v213 =>
        lt_ (x7.1 + 3 : Int32) fun v214 =>
        sc_ xs L v214 fun v215 =>
        ck_ x7.2 a1 8 <| cP_ (f_X8_parsed x7.2 a1 v211 v213 v215) fun v216 =>
        lt_ (x7.1 + 1 : Int32) fun v217 =>
        sc_ xs L v217 fun v218 =>
        lt_ (x7.1 + 2 : Int32) fun v219 =>
        sc_ xs L v219 fun v220 =>
        lt_ (x7.1 + 3 : Int32) fun v221 =>
        sc_ xs L v221 fun v222 =>
        ck_ x7.2 a4 9 <| cI_ (f_X9_parsed x7.2 a4 v218 v220 v222) fun v224 S223 =>
        if v216 = v224 then
          j11 (S223)
        else
          none
      else
      if v10 = 22 then
        lt_ (x7.1 + 1 : Int32) fun v225 =>
        sc_ xs L v225 fun v226 =>
        lt_ (x7.1 + 2 : Int32) fun v227 =>
        sc_ xs L v227 fun v228 =>
        lt_ (x7.1 + 3 : Int32) fun v229 =>
        sc_ xs L v229 fun v230 =>
        jn_ (fun (x231 : Int32) =>
          ck_ x7.2 a1 8 <| cP_ (f_X8_between x7.2 a1 v226 v228 x231) fun v232 =>
          lt_ (x7.1 + 1 : Int32) fun v233 =>
          sc_ xs L v233 fun v234 =>
          lt_ (x7.1 + 2 : Int32) fun v235 =>
          sc_ xs L v235 fun v236 =>
          lt_ (x7.1 + 3 : Int32) fun v237 =>
          sc_ xs L v237 fun v238 =>
          jn_ (fun (x239 : Int32) =>
            ck_ x7.2 a4 9 <| cI_ (f_X9_between x7.2 a4 v234 v236 x239) fun v241 S240 =>
            if v232 = v241 then
              j11 (S240)
            else
              none
          ) fun j239 =>
          if v238 = 0 then
            j239 (0)
          else
            j239 (1)
        ) fun j231 =>
        if v230 = 0 then
          j231 (0)
        else
          j231 (1)
      else
      if v10 = 23 then
        lt_ (x7.1 + 1 : Int32) fun v242 =>
        sc_ xs L v242 fun v243 =>
        lt_ (x7.1 + 2 : Int32) fun v244 =>
        sc_ xs L v244 fun v245 =>
        lt_ (x7.1 + 3 : Int32) fun v246 =>
        sc_ xs L v246 fun v247 =>
        ck_ x7.2 a1 8 <| cP_ (f_X8_sum x7.2 a1 v243 v245 v247) fun v248 =>
        lt_ (x7.1 + 1 : Int32) fun v249 =>
        sc_ xs L v249 fun v250 =>
        lt_ (x7.1 + 2 : Int32) fun v251 =>
        sc_ xs L v251 fun v252 =>
        lt_ (x7.1 + 3 : Int32) fun v253 =>
        sc_ xs L v253 fun v254 =>
        ck_ x7.2 a4 9 <| cI_ (f_X9_sum x7.2 a4 v250 v252 v254) fun v256 S255 =>
        if v248 = v256 then
          j11 (S255)
        else
          none
      else
      if v10 = 24 then
        lt_ (x7.1 + 1 : Int32) fun v257 =>
        sc_ xs L v257 fun v258 =>
        lt_ (x7.1 + 2 : Int32) fun v259 =>
        sc_ xs L v259 fun v260 =>
        ck_ x7.2 a1 8 <| cP_ (f_X8_would x7.2 a1 v258 v260) fun v261 =>
        lt_ (x7.1 + 1 : Int32) fun v262 =>
        sc_ xs L v262 fun v263 =>
        lt_ (x7.1 + 2 : Int32) fun v264 =>
        sc_ xs L v264 fun v265 =>
        ck_ x7.2 a4 9 <| cI_ (f_X9_would x7.2 a4 v263 v265) fun v267 S266 =>
        if v261 = v267 then
          j11 (S266)
        else
          none
      else
      if v10 = 25 then
        lt_ (x7.1 + 1 : Int32) fun v268 =>
        sc_ xs L v268 fun v269 =>
        ck_ x7.2 a1 8 <| cP_ (f_X8_room x7.2 a1 v269) fun v270 =>
        lt_ (x7.1 + 1 : Int32) fun v271 =>
        sc_ xs L v271 fun v272 =>
        ck_ x7.2 a4 9 <| cI_ (f_X9_room x7.2 a4 v272) fun v274 S273 =>
        if v270 = v274 then
          j11 (S273)
        else
          none
      else
      if v10 = 26 then
        lt_ (x7.1 + 1 : Int32) fun v275 =>
        sc_ xs L v275 fun v276 =>
        lt_ (x7.1 + 2 : Int32) fun v277 =>
        sc_ xs L v277 fun v278 =>
        lt_ (x7.1 + 3 : Int32) fun v279 =>
        sc_ xs L v279 fun v280 =>
        ck_ x7.2 a1 8 <| cI_ (f_X8_after x7.2 a1 v276 v278 v280) fun v282 S281 =>
        lt_ (x7.1 + 1 : Int32) fun v283 =>
        sc_ xs L v283 fun v284 =>
        lt_ (x7.1 + 2 : Int32) fun v285 =>
        sc_ xs L v285 fun v286 =>
        lt_ (x7.1 + 3 : Int32) fun v287 =>
        sc_ xs L v287 fun v288 =>
        ck_ S281 a4 9 <| cI_ (f_X9_after S281 a4 v284 v286 v288) fun v290 S289 =>
        if v282 = v290 then
          j11 (S289)
        else
          none
      else
      if v10 = 27 then
        lt_ (x7.1 + 1 : Int32) fun v291 =>
        sc_ xs L v291 fun v292 =>
        lt_ (x7.1 + 2 : Int32) fun v293 =>
        sc_ xs L v293 fun v294 =>
        ck_ x7.2 a1 8 <| cI_ (f_X8_fewest x7.2 a1 v292 v294) fun v296 S295 =>
        lt_ (x7.1 + 1 : Int32) fun v297 =>
        sc_ xs L v297 fun v298 =>
        lt_ (x7.1 + 2 : Int32) fun v299 =>
        sc_ xs L v299 fun v300 =>
        ck_ S295 a4 9 <| cI_ (f_X9_fewest S295 a4 v298 v300) fun v302 S301 =>
        if v296 = v302 then
          j11 (S301)
        else
          none
      else
      if v10 = 28 then
        lt_ (x7.1 + 1 : Int32) fun v303 =>
        sc_ xs L v303 fun v304 =>
        ck_ x7.2 a1 8 <| cI_ (f_X8_image x7.2 a1 v304) fun v306 S305 =>
        lt_ (x7.1 + 1 : Int32) fun v307 =>
        sc_ xs L v307 fun v308 =>
        ck_ S305 a4 9 <| cI_ (f_X9_image S305 a4 v308) fun v310 S309 =>
        if v306 = v310 then
          j11 (S309)
        else
          none
      else
      if v10 = 29 then
        lt_ (x7.1 + 1 : Int32) fun v311 =>
        sc_ xs L v311 fun v312 =>
        ck_ x7.2 a1 8 <| cI_ (f_X8_again x7.2 a1 v312) fun v314 S313 =>
        lt_ (x7.1 + 1 : Int32) fun v315 =>
        sc_ xs L v315 fun v316 =>
        ck_ S313 a4 9 <| cI_ (f_X9_again S313 a4 v316) fun v318 S317 =>
        if v314 = v318 then
          j11 (S317)
        else
          none
      else
      j11 (x7.2)
  ) FU (0, S6)
section LAWROWS
variable {X : Cx} {G : Gx} {own : String} {cc : ByteArray} {nL n1 n2 : Nat} {ret' : Option FieldType} {rm : Room} {Q : State → Prop} {pc : Nat} {lv lv' : List (Nat × Value)} {st st0 : List Value} {S : St} {β : Type} {o : β} {b L : Nat} {xs' : Nat → Int32}
theorem m_sld {i : Int32} (C : Cok X G own cc nL ret' rm) (hd : decode cc pc = .ok (.iaload, 1)) (hX : va_X b L xs' (xs X) (xs X).heap) (hbl : b < (xs X).heap.size) (hbA : ¬ wA G b) {K : Int32 → Option β} (h : sc_ xs' L i K = some o) (kk : ∀ v, K v = some o → WM X G nL n1 n2 Q (pc + 1) lv (.int v :: st) S) : WM X G nL n1 n2 Q pc lv (.int i :: .ref b :: st) S := by
  unfold sc_ at h
  split at h
  · next hin =>
    intro H locs ls hl hr hs
    exact va_sld C.hx C.hb hX hbl hbA hs hin hd (kk _ h H locs ls hl hr hs)
  · cases h
theorem m_slen (C : Cok X G own cc nL ret' rm) (hd : decode cc pc = .ok (.arraylength, 1)) (hX : va_X b L xs' (xs X) (xs X).heap) (hbl : b < (xs X).heap.size) (hbA : ¬ wA G b) (k : WM X G nL n1 n2 Q (pc + 1) lv (.int (Int32.ofNat L) :: st) S) : WM X G nL n1 n2 Q pc lv (.ref b :: st) S := by
  intro H locs ls hl hr hs
  exact va_slen C.hx C.hb hX hbl hbA hs hd (k H locs ls hl hr hs)
end LAWROWS
theorem m_lret {X : Cx} {G : Gx} {n1 n2 nL pc b : Nat} {lv : List (Nat × Value)} {S : St} (C : Cok X G RL code nL ret room_1) (hd : decode code pc = .ok (.ireturn, 1)) (hn : n1 ≤ 600000 ∧ n2 ≤ 7302249) (hG : G.1 = (xs X).heap.size) (ha : xa X = #[Value.ref b]) : WM X G nL n1 n2 (lw_Z (xb X) (xa X) (xs X)) pc lv [.int 1] S := by
  intro H locs ls hl hr hs
  refine va_forget (fun q hq => by rw [← hG]; exact hs.2.2 q hq) ?_
  refine W.widen (k := 600000) (n := 7302249) hn.1 hn.2 ?_
  have hR := C.hR
  obtain ⟨p, l, e, R, s, m, args, below, meth, c⟩ := X
  simp only [xR] at hR
  subst hR
  simp only [xa] at ha
  subst ha
  exact lw_ret C.hx C.hb C.hret C.hlk hd
set_option maxRecDepth 100000 in
set_option maxHeartbeats 16000000 in
theorem c_law {X : Cx} {G : Gx} {b L : Nat} {ys : Nat → Int32} {S : St} (o : Unit) (C : Cok X G RL code 4 ret room_1) (hG : G.1 = (xs X).heap.size) (ha : xa X = #[Value.ref b]) (hX : va_X b L ys (xs X) (xs X).heap) (hbl : b < (xs X).heap.size) (hbA : ¬ wA G b) (h : f_law ys L S = some o) : WM X G 4 0 0 (lw_Z (xb X) (xa X) (xs X)) 0 [(0, .ref b)] [] S := by
  unfold f_law at h
  refine m_new C (dOf DL_law 0 rfl) (by decide) kcl_L_7 ⟨by decide, by decide⟩ h (fun a1 S2 h => ?_)
  refine m_dup C (dOf DL_law 1 rfl) rfl ?_
  refine m_cC (st := [.ref (G.1 + a1)]) h (fun o' ho H locs ls hl hr hs => ⟨_, m_runI C (dOf DL_law 2 rfl) km_L_9 ki_X8_init (by decide) ⟨rfl, rfl⟩ (c_X8_init _ G _ _ o' ho) rfl rfl (Nat.le_of_ble_eq_true rfl) ⟨by decide, by decide⟩ hl hr hs⟩) (fun S3 h => ?_)
  refine m_astore_n C (dOf DL_law 3 rfl) rfl (by decide) (lv' := [(1, .ref (G.1 + a1)), (0, .ref b)]) rfl ?_
  refine m_new C (dOf DL_law 4 rfl) (by decide) kcl_L_10 ⟨by decide, by decide⟩ h (fun a4 S5 h => ?_)
  refine m_dup C (dOf DL_law 5 rfl) rfl ?_
  refine m_cC (st := [.ref (G.1 + a4)]) h (fun o' ho H locs ls hl hr hs => ⟨_, m_runI C (dOf DL_law 6 rfl) km_L_12 ki_X9_init (by decide) ⟨rfl, rfl⟩ (c_X9_init _ G _ _ o' ho) rfl rfl (Nat.le_of_ble_eq_true rfl) ⟨by decide, by decide⟩ hl hr hs⟩) (fun S6 h => ?_)
  refine m_astore_n C (dOf DL_law 7 rfl) rfl (by decide) (lv' := [(2, .ref (G.1 + a4)), (1, .ref (G.1 + a1)), (0, .ref b)]) rfl ?_
  refine m_iconst C (dOf DL_law 8 rfl) (v := 0) ki_0 ?_
  refine m_istore_n C (dOf DL_law 9 rfl) rfl (by decide) (lv' := [(3, .int 0), (2, .ref (G.1 + a4)), (1, .ref (G.1 + a1)), (0, .ref b)]) rfl ?_
  refine m_sub [3, 2, 1, 0] rfl (m_lp (J := fun (x7 : Int32 × St) => WM X G 4 381 15013 (lw_Z (xb X) (xa X) (xs X)) 18 [(0, .ref b), (1, .ref (G.1 + a1)), (2, .ref (G.1 + a4)), (3, .int x7.1)] [] x7.2) h (fun self7 hself7 x7 h => ?_))
  refine m_iload_n C (dOf DL_law 10 rfl) rfl 3 rfl ?_
  refine m_aload_n C (dOf DL_law 11 rfl) rfl 0 rfl ?_
  refine m_slen C (dOf DL_law 12 rfl) hX hbl hbA ?_
  refine m_iconst C (dOf DL_law 13 rfl) (v := 4) ki_4 ?_
  refine m_isub C (dOf DL_law 14 rfl) h (fun v8 h => ?_)
  refine m_icmpgt C (dOf DL_law 15 rfl) (tgt := 1098) rfl h (fun h => ?_) (fun h => ?_)
  · refine m_iconst C (dOf DL_law_6 10 rfl) (v := 1) ki_1 ?_
    exact m_lret C (dOf DL_law_6 11 rfl) ⟨by decide, by decide⟩ hG ha
  · refine m_aload_n C (dOf DL_law 16 rfl) rfl 0 rfl ?_
    refine m_iload_n C (dOf DL_law 17 rfl) rfl 3 rfl ?_
    refine m_sld C (dOf DL_law 18 rfl) hX hbl hbA h (fun v9 h => ?_)
    refine m_bipush C (dOf DL_law 19 rfl) (v := 31) kb_31 ?_
    refine m_iand C (dOf DL_law 20 rfl) h (fun v10 h => ?_)
    refine m_jn (J := fun (x11 : St) => WM X G 4 381 15013 (lw_Z (xb X) (xa X) (xs X)) 1092 [(0, .ref b), (1, .ref (G.1 + a1)), (2, .ref (G.1 + a4)), (3, .int x7.1)] [] x11) h (fun x11 h => ?_) (fun j11 hj11 h => ?_)
    · refine m_iinc C (dOf DL_law_6 8 rfl) (w := 4) ki_4 3 rfl (by decide) h (fun v12 h => ⟨[(3, .int v12), (0, .ref b), (1, .ref (G.1 + a1)), (2, .ref (G.1 + a4))], rfl, ?_⟩)
      refine m_goto C (dOf DL_law_6 9 rfl) (tgt := 18) rfl ?_
      exact m_sub [1, 2, 3, 0] rfl (hself7 _ h)
    refine m_sw h (fun e h => ?_) (fun n0 h => ?_)
    · refine m_tin C (dOf DL_law 21 rfl) 0 e (by decide) (by decide) (off := 136) rfl (tgt := 168) rfl ?_
      refine m_aload_n C (dOf DL_law 22 rfl) rfl 1 rfl ?_
      refine m_aload_n C (dOf DL_law 23 rfl) rfl 0 rfl ?_
      refine m_iload_n C (dOf DL_law 24 rfl) rfl 3 rfl ?_
      refine m_iconst C (dOf DL_law 25 rfl) (v := 1) ki_1 ?_
      refine m_iadd C (dOf DL_law 26 rfl) h (fun v13 h => ?_)
      refine m_sld C (dOf DL_law 27 rfl) hX hbl hbA h (fun v14 h => ?_)
      refine m_i2l C (dOf DL_law 28 rfl) h (fun v15 h => ?_)
      refine m_bipush C (dOf DL_law 29 rfl) (v := 32) kb_32 ?_
      refine m_lshl C (dOf DL_law 30 rfl) h (fun v16 h => ?_)
      refine m_aload_n C (dOf DL_law 31 rfl) rfl 0 rfl ?_
      refine m_iload_n C (dOf DL_law 32 rfl) rfl 3 rfl ?_
      refine m_iconst C (dOf DL_law 33 rfl) (v := 2) ki_2 ?_
      refine m_iadd C (dOf DL_law 34 rfl) h (fun v17 h => ?_)
      refine m_sld C (dOf DL_law 35 rfl) hX hbl hbA h (fun v18 h => ?_)
      refine m_i2l C (dOf DL_law 36 rfl) h (fun v19 h => ?_)
      refine m_ldc2 C (dOf DL_law 37 rfl) kc_L_13 ?_
      refine m_land C (dOf DL_law 38 rfl) h (fun v20 h => ?_)
      refine m_lor C (dOf DL_law 39 rfl) h (fun v21 h => ?_)
      obtain ⟨hc, h⟩ := ck_spec h
      refine m_cI (st := []) h (fun o' ho H locs ls hl hr hs => ⟨_, m_runV C (dOf DL_law 40 rfl) km_L_15 ky_X8_tell (by decide) ⟨rfl, rfl⟩ (c_X8_tell _ G _ _ _ o' ho) hc.1 hc.2 (by decide) rfl rfl rfl (Nat.le_of_ble_eq_true rfl) ⟨by decide, by decide⟩ hl hr hs⟩) (fun v23 S22 h => ?_)
      refine m_aload_n C (dOf DL_law 41 rfl) rfl 2 rfl ?_
      refine m_aload_n C (dOf DL_law 42 rfl) rfl 0 rfl ?_
      refine m_iload_n C (dOf DL_law 43 rfl) rfl 3 rfl ?_
      refine m_iconst C (dOf DL_law 44 rfl) (v := 1) ki_1 ?_
      refine m_iadd C (dOf DL_law 45 rfl) h (fun v24 h => ?_)
      refine m_sld C (dOf DL_law 46 rfl) hX hbl hbA h (fun v25 h => ?_)
      refine m_i2l C (dOf DL_law 47 rfl) h (fun v26 h => ?_)
      refine m_bipush C (dOf DL_law 48 rfl) (v := 32) kb_32 ?_
      refine m_lshl C (dOf DL_law 49 rfl) h (fun v27 h => ?_)
      refine m_aload_n C (dOf DL_law 50 rfl) rfl 0 rfl ?_
      refine m_iload_n C (dOf DL_law 51 rfl) rfl 3 rfl ?_
      refine m_iconst C (dOf DL_law 52 rfl) (v := 2) ki_2 ?_
      refine m_iadd C (dOf DL_law 53 rfl) h (fun v28 h => ?_)
      refine m_sld C (dOf DL_law 54 rfl) hX hbl hbA h (fun v29 h => ?_)
      refine m_i2l C (dOf DL_law 55 rfl) h (fun v30 h => ?_)
      refine m_ldc2 C (dOf DL_law 56 rfl) kc_L_13 ?_
      refine m_land C (dOf DL_law 57 rfl) h (fun v31 h => ?_)
      refine m_lor C (dOf DL_law 58 rfl) h (fun v32 h => ?_)
      obtain ⟨hc, h⟩ := ck_spec h
      refine m_cI (st := [.int v23]) h (fun o' ho H locs ls hl hr hs => ⟨_, m_runV C (dOf DL_law 59 rfl) km_L_19 ky_X9_tell (by decide) ⟨rfl, rfl⟩ (c_X9_tell _ G _ _ _ o' ho) hc.1 hc.2 (by decide) rfl rfl rfl (Nat.le_of_ble_eq_true rfl) ⟨by decide, by decide⟩ hl hr hs⟩) (fun v34 S33 h => ?_)
      refine m_icmpeq C (dOf DL_law 60 rfl) (tgt := 1092) rfl h (fun h => ?_) (fun h => ?_)
      · exact m_sub [0, 1, 2, 3] rfl (hj11 _ h)
      · refine m_iconst C (dOf DL_law 61 rfl) (v := 0) ki_0 ?_
        cases h
    refine m_sw h (fun e h => ?_) (fun n1 h => ?_)
    · refine m_tin C (dOf DL_law 21 rfl) 1 e (by decide) (by decide) (off := 189) rfl (tgt := 221) rfl ?_
      refine m_aload_n C (dOf DL_law 63 rfl) rfl 1 rfl ?_
      obtain ⟨hc, h⟩ := ck_spec h
      refine m_cI (st := []) h (fun o' ho H locs ls hl hr hs => ⟨_, m_runV C (dOf DL_law 64 rfl) km_L_20 ky_X8_ring (by decide) ⟨rfl, rfl⟩ (c_X8_ring _ G _ _ o' ho) hc.1 hc.2 (by decide) rfl rfl rfl (Nat.le_of_ble_eq_true rfl) ⟨by decide, by decide⟩ hl hr hs⟩) (fun v36 S35 h => ?_)
      refine m_aload_n C (dOf DL_law 65 rfl) rfl 2 rfl ?_
      obtain ⟨hc, h⟩ := ck_spec h
      refine m_cI (st := [.int v36]) h (fun o' ho H locs ls hl hr hs => ⟨_, m_runV C (dOf DL_law 66 rfl) km_L_24 ky_X9_ring (by decide) ⟨rfl, rfl⟩ (c_X9_ring _ G _ _ o' ho) hc.1 hc.2 (by decide) rfl rfl rfl (Nat.le_of_ble_eq_true rfl) ⟨by decide, by decide⟩ hl hr hs⟩) (fun v38 S37 h => ?_)
      refine m_icmpeq C (dOf DL_law 67 rfl) (tgt := 1092) rfl h (fun h => ?_) (fun h => ?_)
      · exact m_sub [0, 1, 2, 3] rfl (hj11 _ h)
      · refine m_iconst C (dOf DL_law 68 rfl) (v := 0) ki_0 ?_
        cases h
    refine m_sw h (fun e h => ?_) (fun n2 h => ?_)
    · refine m_tin C (dOf DL_law 21 rfl) 2 e (by decide) (by decide) (off := 202) rfl (tgt := 234) rfl ?_
      refine m_aload_n C (dOf DL_law 70 rfl) rfl 1 rfl ?_
      obtain ⟨hc, h⟩ := ck_spec h
      refine m_cI (st := []) h (fun o' ho H locs ls hl hr hs => ⟨_, m_runV C (dOf DL_law 71 rfl) km_L_25 ky_X8_script (by decide) ⟨rfl, rfl⟩ (c_X8_script _ G _ _ o' ho) hc.1 hc.2 (by decide) rfl rfl rfl (Nat.le_of_ble_eq_true rfl) ⟨by decide, by decide⟩ hl hr hs⟩) (fun v40 S39 h => ?_)
      refine m_aload_n C (dOf DL_law 72 rfl) rfl 2 rfl ?_
      obtain ⟨hc, h⟩ := ck_spec h
      refine m_cI (st := [.int v40]) h (fun o' ho H locs ls hl hr hs => ⟨_, m_runV C (dOf DL_law 73 rfl) km_L_28 ky_X9_script (by decide) ⟨rfl, rfl⟩ (c_X9_script _ G _ _ o' ho) hc.1 hc.2 (by decide) rfl rfl rfl (Nat.le_of_ble_eq_true rfl) ⟨by decide, by decide⟩ hl hr hs⟩) (fun v42 S41 h => ?_)
      refine m_icmpeq C (dOf DL_law 74 rfl) (tgt := 1092) rfl h (fun h => ?_) (fun h => ?_)
      · exact m_sub [0, 1, 2, 3] rfl (hj11 _ h)
      · refine m_iconst C (dOf DL_law 75 rfl) (v := 0) ki_0 ?_
        cases h
    refine m_sw h (fun e h => ?_) (fun n3 h => ?_)
    · refine m_tin C (dOf DL_law 21 rfl) 3 e (by decide) (by decide) (off := 215) rfl (tgt := 247) rfl ?_
      refine m_aload_n C (dOf DL_law 77 rfl) rfl 1 rfl ?_
      refine m_aload_n C (dOf DL_law 78 rfl) rfl 0 rfl ?_
      refine m_iload_n C (dOf DL_law 79 rfl) rfl 3 rfl ?_
      refine m_iconst C (dOf DL_law 80 rfl) (v := 1) ki_1 ?_
      refine m_iadd C (dOf DL_law 81 rfl) h (fun v43 h => ?_)
      refine m_sld C (dOf DL_law 82 rfl) hX hbl hbA h (fun v44 h => ?_)
      refine m_jn (J := fun (x45 : Int32) => WM X G 4 381 15013 (lw_Z (xb X) (xa X) (xs X)) 261 [(0, .ref b), (1, .ref (G.1 + a1)), (2, .ref (G.1 + a4)), (3, .int x7.1)] [.int x45, .ref (G.1 + a1)] x7.2) h (fun x45 h => ?_) (fun j45 hj45 h => ?_)
      · obtain ⟨hc, h⟩ := ck_spec h
        refine m_cP (st := []) h (fun o' ho H locs ls hl hr hs => ⟨_, m_runV C (dOf DL_law 87 rfl) km_L_29 ky_X8_fault (by decide) ⟨rfl, rfl⟩ (c_X8_fault _ G _ _ _ o' ho) hc.1 hc.2 (by decide) rfl rfl rfl (Nat.le_of_ble_eq_true rfl) ⟨by decide, by decide⟩ hl hr hs⟩) (fun v46 h => ?_)
        refine m_aload_n C (dOf DL_law 88 rfl) rfl 2 rfl ?_
        refine m_aload_n C (dOf DL_law 89 rfl) rfl 0 rfl ?_
        refine m_iload_n C (dOf DL_law 90 rfl) rfl 3 rfl ?_
        refine m_iconst C (dOf DL_law 91 rfl) (v := 1) ki_1 ?_
        refine m_iadd C (dOf DL_law 92 rfl) h (fun v47 h => ?_)
        refine m_sld C (dOf DL_law 93 rfl) hX hbl hbA h (fun v48 h => ?_)
        refine m_jn (J := fun (x49 : Int32) => WM X G 4 381 15013 (lw_Z (xb X) (xa X) (xs X)) 278 [(0, .ref b), (1, .ref (G.1 + a1)), (2, .ref (G.1 + a4)), (3, .int x7.1)] [.int x49, .ref (G.1 + a4), .int v46] x7.2) h (fun x49 h => ?_) (fun j49 hj49 h => ?_)
        · obtain ⟨hc, h⟩ := ck_spec h
          refine m_cI (st := [.int v46]) h (fun o' ho H locs ls hl hr hs => ⟨_, m_runV C (dOf DL_law 98 rfl) km_L_33 ky_X9_fault (by decide) ⟨rfl, rfl⟩ (c_X9_fault _ G _ _ _ o' ho) hc.1 hc.2 (by decide) rfl rfl rfl (Nat.le_of_ble_eq_true rfl) ⟨by decide, by decide⟩ hl hr hs⟩) (fun v51 S50 h => ?_)
          refine m_icmpeq C (dOf DL_law 99 rfl) (tgt := 1092) rfl h (fun h => ?_) (fun h => ?_)
          · exact m_sub [0, 1, 2, 3] rfl (hj11 _ h)
          · refine m_iconst C (dOf DL_law 100 rfl) (v := 0) ki_0 ?_
            cases h
        refine m_ifeq C (dOf DL_law 94 rfl) (tgt := 277) rfl h (fun h => ?_) (fun h => ?_)
        · refine m_iconst C (dOf DL_law 97 rfl) (v := 0) ki_0 ?_
          exact m_sub [0, 1, 2, 3] rfl (hj49 _ h)
        · refine m_iconst C (dOf DL_law 95 rfl) (v := 1) ki_1 ?_
          refine m_goto C (dOf DL_law 96 rfl) (tgt := 278) rfl ?_
          exact m_sub [0, 1, 2, 3] rfl (hj49 _ h)
      refine m_ifeq C (dOf DL_law 83 rfl) (tgt := 260) rfl h (fun h => ?_) (fun h => ?_)
      · refine m_iconst C (dOf DL_law 86 rfl) (v := 0) ki_0 ?_
        exact m_sub [0, 1, 2, 3] rfl (hj45 _ h)
      · refine m_iconst C (dOf DL_law 84 rfl) (v := 1) ki_1 ?_
        refine m_goto C (dOf DL_law 85 rfl) (tgt := 261) rfl ?_
        exact m_sub [0, 1, 2, 3] rfl (hj45 _ h)
    refine m_sw h (fun e h => ?_) (fun n4 h => ?_)
    · refine m_tin C (dOf DL_law 21 rfl) 4 e (by decide) (by decide) (off := 254) rfl (tgt := 286) rfl ?_
      refine m_aload_n C (dOf DL_law 102 rfl) rfl 1 rfl ?_
      refine m_aload_n C (dOf DL_law 103 rfl) rfl 0 rfl ?_
      refine m_iload_n C (dOf DL_law 104 rfl) rfl 3 rfl ?_
      refine m_iconst C (dOf DL_law 105 rfl) (v := 1) ki_1 ?_
      refine m_iadd C (dOf DL_law 106 rfl) h (fun v52 h => ?_)
      refine m_sld C (dOf DL_law 107 rfl) hX hbl hbA h (fun v53 h => ?_)
      obtain ⟨hc, h⟩ := ck_spec h
      refine m_cI (st := []) h (fun o' ho H locs ls hl hr hs => ⟨_, m_runV C (dOf DL_law 108 rfl) km_L_34 ky_X8_tick (by decide) ⟨rfl, rfl⟩ (c_X8_tick _ G _ _ _ o' ho) hc.1 hc.2 (by decide) rfl rfl rfl (Nat.le_of_ble_eq_true rfl) ⟨by decide, by decide⟩ hl hr hs⟩) (fun v55 S54 h => ?_)
      refine m_aload_n C (dOf DL_law 109 rfl) rfl 2 rfl ?_
      refine m_aload_n C (dOf DL_law 110 rfl) rfl 0 rfl ?_
      refine m_iload_n C (dOf DL_law 111 rfl) rfl 3 rfl ?_
      refine m_iconst C (dOf DL_law 112 rfl) (v := 1) ki_1 ?_
      refine m_iadd C (dOf DL_law 113 rfl) h (fun v56 h => ?_)
      refine m_sld C (dOf DL_law 114 rfl) hX hbl hbA h (fun v57 h => ?_)
      obtain ⟨hc, h⟩ := ck_spec h
      refine m_cI (st := [.int v55]) h (fun o' ho H locs ls hl hr hs => ⟨_, m_runV C (dOf DL_law 115 rfl) km_L_38 ky_X9_tick (by decide) ⟨rfl, rfl⟩ (c_X9_tick _ G _ _ _ o' ho) hc.1 hc.2 (by decide) rfl rfl rfl (Nat.le_of_ble_eq_true rfl) ⟨by decide, by decide⟩ hl hr hs⟩) (fun v59 S58 h => ?_)
      refine m_icmpeq C (dOf DL_law 116 rfl) (tgt := 1092) rfl h (fun h => ?_) (fun h => ?_)
      · exact m_sub [0, 1, 2, 3] rfl (hj11 _ h)
      · refine m_iconst C (dOf DL_law 117 rfl) (v := 0) ki_0 ?_
        cases h
    refine m_sw h (fun e h => ?_) (fun n5 h => ?_)
    · refine m_tin C (dOf DL_law 21 rfl) 5 e (by decide) (by decide) (off := 277) rfl (tgt := 309) rfl ?_
      refine m_aload_n C (dOf DL_law 119 rfl) rfl 1 rfl ?_
      refine m_aload_n C (dOf DL_law_1 0 rfl) rfl 0 rfl ?_
      refine m_iload_n C (dOf DL_law_1 1 rfl) rfl 3 rfl ?_
      refine m_iconst C (dOf DL_law_1 2 rfl) (v := 1) ki_1 ?_
      refine m_iadd C (dOf DL_law_1 3 rfl) h (fun v60 h => ?_)
      refine m_sld C (dOf DL_law_1 4 rfl) hX hbl hbA h (fun v61 h => ?_)
      refine m_aload_n C (dOf DL_law_1 5 rfl) rfl 0 rfl ?_
      refine m_iload_n C (dOf DL_law_1 6 rfl) rfl 3 rfl ?_
      refine m_iconst C (dOf DL_law_1 7 rfl) (v := 2) ki_2 ?_
      refine m_iadd C (dOf DL_law_1 8 rfl) h (fun v62 h => ?_)
      refine m_sld C (dOf DL_law_1 9 rfl) hX hbl hbA h (fun v63 h => ?_)
      obtain ⟨hc, h⟩ := ck_spec h
      refine m_cI (st := []) h (fun o' ho H locs ls hl hr hs => ⟨_, m_runV C (dOf DL_law_1 10 rfl) km_L_39 ky_X8_take (by decide) ⟨rfl, rfl⟩ (c_X8_take _ G _ _ _ _ o' ho) hc.1 hc.2 (by decide) rfl rfl rfl (Nat.le_of_ble_eq_true rfl) ⟨by decide, by decide⟩ hl hr hs⟩) (fun v65 S64 h => ?_)
      refine m_aload_n C (dOf DL_law_1 11 rfl) rfl 2 rfl ?_
      refine m_aload_n C (dOf DL_law_1 12 rfl) rfl 0 rfl ?_
      refine m_iload_n C (dOf DL_law_1 13 rfl) rfl 3 rfl ?_
      refine m_iconst C (dOf DL_law_1 14 rfl) (v := 1) ki_1 ?_
      refine m_iadd C (dOf DL_law_1 15 rfl) h (fun v66 h => ?_)
      refine m_sld C (dOf DL_law_1 16 rfl) hX hbl hbA h (fun v67 h => ?_)
      refine m_aload_n C (dOf DL_law_1 17 rfl) rfl 0 rfl ?_
      refine m_iload_n C (dOf DL_law_1 18 rfl) rfl 3 rfl ?_
      refine m_iconst C (dOf DL_law_1 19 rfl) (v := 2) ki_2 ?_
      refine m_iadd C (dOf DL_law_1 20 rfl) h (fun v68 h => ?_)
      refine m_sld C (dOf DL_law_1 21 rfl) hX hbl hbA h (fun v69 h => ?_)
      obtain ⟨hc, h⟩ := ck_spec h
      refine m_cI (st := [.int v65]) h (fun o' ho H locs ls hl hr hs => ⟨_, m_runV C (dOf DL_law_1 22 rfl) km_L_43 ky_X9_take (by decide) ⟨rfl, rfl⟩ (c_X9_take _ G _ _ _ _ o' ho) hc.1 hc.2 (by decide) rfl rfl rfl (Nat.le_of_ble_eq_true rfl) ⟨by decide, by decide⟩ hl hr hs⟩) (fun v71 S70 h => ?_)
      refine m_icmpeq C (dOf DL_law_1 23 rfl) (tgt := 1092) rfl h (fun h => ?_) (fun h => ?_)
      · exact m_sub [0, 1, 2, 3] rfl (hj11 _ h)
      · refine m_iconst C (dOf DL_law_1 24 rfl) (v := 0) ki_0 ?_
        cases h
    refine m_sw h (fun e h => ?_) (fun n6 h => ?_)
    · refine m_tin C (dOf DL_law 21 rfl) 6 e (by decide) (by decide) (off := 310) rfl (tgt := 342) rfl ?_
      refine m_aload_n C (dOf DL_law_1 26 rfl) rfl 1 rfl ?_
      refine m_aload_n C (dOf DL_law_1 27 rfl) rfl 0 rfl ?_
      refine m_iload_n C (dOf DL_law_1 28 rfl) rfl 3 rfl ?_
      refine m_iconst C (dOf DL_law_1 29 rfl) (v := 1) ki_1 ?_
      refine m_iadd C (dOf DL_law_1 30 rfl) h (fun v72 h => ?_)
      refine m_sld C (dOf DL_law_1 31 rfl) hX hbl hbA h (fun v73 h => ?_)
      refine m_aload_n C (dOf DL_law_1 32 rfl) rfl 0 rfl ?_
      refine m_iload_n C (dOf DL_law_1 33 rfl) rfl 3 rfl ?_
      refine m_iconst C (dOf DL_law_1 34 rfl) (v := 2) ki_2 ?_
      refine m_iadd C (dOf DL_law_1 35 rfl) h (fun v74 h => ?_)
      refine m_sld C (dOf DL_law_1 36 rfl) hX hbl hbA h (fun v75 h => ?_)
      obtain ⟨hc, h⟩ := ck_spec h
      refine m_cI (st := []) h (fun o' ho H locs ls hl hr hs => ⟨_, m_runV C (dOf DL_law_1 37 rfl) km_L_44 ky_X8_put (by decide) ⟨rfl, rfl⟩ (c_X8_put _ G _ _ _ _ o' ho) hc.1 hc.2 (by decide) rfl rfl rfl (Nat.le_of_ble_eq_true rfl) ⟨by decide, by decide⟩ hl hr hs⟩) (fun v77 S76 h => ?_)
      refine m_aload_n C (dOf DL_law_1 38 rfl) rfl 2 rfl ?_
      refine m_aload_n C (dOf DL_law_1 39 rfl) rfl 0 rfl ?_
      refine m_iload_n C (dOf DL_law_1 40 rfl) rfl 3 rfl ?_
      refine m_iconst C (dOf DL_law_1 41 rfl) (v := 1) ki_1 ?_
      refine m_iadd C (dOf DL_law_1 42 rfl) h (fun v78 h => ?_)
      refine m_sld C (dOf DL_law_1 43 rfl) hX hbl hbA h (fun v79 h => ?_)
      refine m_aload_n C (dOf DL_law_1 44 rfl) rfl 0 rfl ?_
      refine m_iload_n C (dOf DL_law_1 45 rfl) rfl 3 rfl ?_
      refine m_iconst C (dOf DL_law_1 46 rfl) (v := 2) ki_2 ?_
      refine m_iadd C (dOf DL_law_1 47 rfl) h (fun v80 h => ?_)
      refine m_sld C (dOf DL_law_1 48 rfl) hX hbl hbA h (fun v81 h => ?_)
      obtain ⟨hc, h⟩ := ck_spec h
      refine m_cI (st := [.int v77]) h (fun o' ho H locs ls hl hr hs => ⟨_, m_runV C (dOf DL_law_1 49 rfl) km_L_47 ky_X9_put (by decide) ⟨rfl, rfl⟩ (c_X9_put _ G _ _ _ _ o' ho) hc.1 hc.2 (by decide) rfl rfl rfl (Nat.le_of_ble_eq_true rfl) ⟨by decide, by decide⟩ hl hr hs⟩) (fun v83 S82 h => ?_)
      refine m_icmpeq C (dOf DL_law_1 50 rfl) (tgt := 1092) rfl h (fun h => ?_) (fun h => ?_)
      · exact m_sub [0, 1, 2, 3] rfl (hj11 _ h)
      · refine m_iconst C (dOf DL_law_1 51 rfl) (v := 0) ki_0 ?_
        cases h
    refine m_sw h (fun e h => ?_) (fun n7 h => ?_)
    · refine m_tin C (dOf DL_law 21 rfl) 7 e (by decide) (by decide) (off := 343) rfl (tgt := 375) rfl ?_
      refine m_aload_n C (dOf DL_law_1 53 rfl) rfl 1 rfl ?_
      refine m_aload_n C (dOf DL_law_1 54 rfl) rfl 0 rfl ?_
      refine m_iload_n C (dOf DL_law_1 55 rfl) rfl 3 rfl ?_
      refine m_iconst C (dOf DL_law_1 56 rfl) (v := 1) ki_1 ?_
      refine m_iadd C (dOf DL_law_1 57 rfl) h (fun v84 h => ?_)
      refine m_sld C (dOf DL_law_1 58 rfl) hX hbl hbA h (fun v85 h => ?_)
      obtain ⟨hc, h⟩ := ck_spec h
      refine m_cI (st := []) h (fun o' ho H locs ls hl hr hs => ⟨_, m_runV C (dOf DL_law_1 59 rfl) km_L_48 ky_X8_end (by decide) ⟨rfl, rfl⟩ (c_X8_end _ G _ _ _ o' ho) hc.1 hc.2 (by decide) rfl rfl rfl (Nat.le_of_ble_eq_true rfl) ⟨by decide, by decide⟩ hl hr hs⟩) (fun v87 S86 h => ?_)
      refine m_aload_n C (dOf DL_law_1 60 rfl) rfl 2 rfl ?_
      refine m_aload_n C (dOf DL_law_1 61 rfl) rfl 0 rfl ?_
      refine m_iload_n C (dOf DL_law_1 62 rfl) rfl 3 rfl ?_
      refine m_iconst C (dOf DL_law_1 63 rfl) (v := 1) ki_1 ?_
      refine m_iadd C (dOf DL_law_1 64 rfl) h (fun v88 h => ?_)
      refine m_sld C (dOf DL_law_1 65 rfl) hX hbl hbA h (fun v89 h => ?_)
      obtain ⟨hc, h⟩ := ck_spec h
      refine m_cI (st := [.int v87]) h (fun o' ho H locs ls hl hr hs => ⟨_, m_runV C (dOf DL_law_1 66 rfl) km_L_51 ky_X9_end (by decide) ⟨rfl, rfl⟩ (c_X9_end _ G _ _ _ o' ho) hc.1 hc.2 (by decide) rfl rfl rfl (Nat.le_of_ble_eq_true rfl) ⟨by decide, by decide⟩ hl hr hs⟩) (fun v91 S90 h => ?_)
      refine m_icmpeq C (dOf DL_law_1 67 rfl) (tgt := 1092) rfl h (fun h => ?_) (fun h => ?_)
      · exact m_sub [0, 1, 2, 3] rfl (hj11 _ h)
      · refine m_iconst C (dOf DL_law_1 68 rfl) (v := 0) ki_0 ?_
        cases h
    refine m_sw h (fun e h => ?_) (fun n8 h => ?_)
    · refine m_tin C (dOf DL_law 21 rfl) 8 e (by decide) (by decide) (off := 366) rfl (tgt := 398) rfl ?_
      refine m_aload_n C (dOf DL_law_1 70 rfl) rfl 1 rfl ?_
      refine m_aload_n C (dOf DL_law_1 71 rfl) rfl 0 rfl ?_
      refine m_iload_n C (dOf DL_law_1 72 rfl) rfl 3 rfl ?_
      refine m_iconst C (dOf DL_law_1 73 rfl) (v := 1) ki_1 ?_
      refine m_iadd C (dOf DL_law_1 74 rfl) h (fun v92 h => ?_)
      refine m_sld C (dOf DL_law_1 75 rfl) hX hbl hbA h (fun v93 h => ?_)
      obtain ⟨hc, h⟩ := ck_spec h
      refine m_cI (st := []) h (fun o' ho H locs ls hl hr hs => ⟨_, m_runV C (dOf DL_law_1 76 rfl) km_L_52 ky_X8_drop (by decide) ⟨rfl, rfl⟩ (c_X8_drop _ G _ _ _ o' ho) hc.1 hc.2 (by decide) rfl rfl rfl (Nat.le_of_ble_eq_true rfl) ⟨by decide, by decide⟩ hl hr hs⟩) (fun v95 S94 h => ?_)
      refine m_aload_n C (dOf DL_law_1 77 rfl) rfl 2 rfl ?_
      refine m_aload_n C (dOf DL_law_1 78 rfl) rfl 0 rfl ?_
      refine m_iload_n C (dOf DL_law_1 79 rfl) rfl 3 rfl ?_
      refine m_iconst C (dOf DL_law_1 80 rfl) (v := 1) ki_1 ?_
      refine m_iadd C (dOf DL_law_1 81 rfl) h (fun v96 h => ?_)
      refine m_sld C (dOf DL_law_1 82 rfl) hX hbl hbA h (fun v97 h => ?_)
      obtain ⟨hc, h⟩ := ck_spec h
      refine m_cI (st := [.int v95]) h (fun o' ho H locs ls hl hr hs => ⟨_, m_runV C (dOf DL_law_1 83 rfl) km_L_55 ky_X9_drop (by decide) ⟨rfl, rfl⟩ (c_X9_drop _ G _ _ _ o' ho) hc.1 hc.2 (by decide) rfl rfl rfl (Nat.le_of_ble_eq_true rfl) ⟨by decide, by decide⟩ hl hr hs⟩) (fun v99 S98 h => ?_)
      refine m_icmpeq C (dOf DL_law_1 84 rfl) (tgt := 1092) rfl h (fun h => ?_) (fun h => ?_)
      · exact m_sub [0, 1, 2, 3] rfl (hj11 _ h)
      · refine m_iconst C (dOf DL_law_1 85 rfl) (v := 0) ki_0 ?_
        cases h
    refine m_sw h (fun e h => ?_) (fun n9 h => ?_)
    · refine m_tin C (dOf DL_law 21 rfl) 9 e (by decide) (by decide) (off := 389) rfl (tgt := 421) rfl ?_
      refine m_aload_n C (dOf DL_law_1 87 rfl) rfl 1 rfl ?_
      refine m_aload_n C (dOf DL_law_1 88 rfl) rfl 0 rfl ?_
      refine m_iload_n C (dOf DL_law_1 89 rfl) rfl 3 rfl ?_
      refine m_iconst C (dOf DL_law_1 90 rfl) (v := 1) ki_1 ?_
      refine m_iadd C (dOf DL_law_1 91 rfl) h (fun v100 h => ?_)
      refine m_sld C (dOf DL_law_1 92 rfl) hX hbl hbA h (fun v101 h => ?_)
      refine m_jn (J := fun (x102 : Int32) => WM X G 4 381 15013 (lw_Z (xb X) (xa X) (xs X)) 435 [(0, .ref b), (1, .ref (G.1 + a1)), (2, .ref (G.1 + a4)), (3, .int x7.1)] [.int x102, .ref (G.1 + a1)] x7.2) h (fun x102 h => ?_) (fun j102 hj102 h => ?_)
      · obtain ⟨hc, h⟩ := ck_spec h
        refine m_cI (st := []) h (fun o' ho H locs ls hl hr hs => ⟨_, m_runV C (dOf DL_law_1 97 rfl) km_L_56 ky_X8_swap (by decide) ⟨rfl, rfl⟩ (c_X8_swap _ G _ _ _ o' ho) hc.1 hc.2 (by decide) rfl rfl rfl (Nat.le_of_ble_eq_true rfl) ⟨by decide, by decide⟩ hl hr hs⟩) (fun v104 S103 h => ?_)
        refine m_aload_n C (dOf DL_law_1 98 rfl) rfl 2 rfl ?_
        refine m_aload_n C (dOf DL_law_1 99 rfl) rfl 0 rfl ?_
        refine m_iload_n C (dOf DL_law_1 100 rfl) rfl 3 rfl ?_
        refine m_iconst C (dOf DL_law_1 101 rfl) (v := 1) ki_1 ?_
        refine m_iadd C (dOf DL_law_1 102 rfl) h (fun v105 h => ?_)
        refine m_sld C (dOf DL_law_1 103 rfl) hX hbl hbA h (fun v106 h => ?_)
        refine m_jn (J := fun (x107 : Int32) => WM X G 4 381 15013 (lw_Z (xb X) (xa X) (xs X)) 452 [(0, .ref b), (1, .ref (G.1 + a1)), (2, .ref (G.1 + a4)), (3, .int x7.1)] [.int x107, .ref (G.1 + a4), .int v104] S103) h (fun x107 h => ?_) (fun j107 hj107 h => ?_)
        · obtain ⟨hc, h⟩ := ck_spec h
          refine m_cI (st := [.int v104]) h (fun o' ho H locs ls hl hr hs => ⟨_, m_runV C (dOf DL_law_1 108 rfl) km_L_59 ky_X9_swap (by decide) ⟨rfl, rfl⟩ (c_X9_swap _ G _ _ _ o' ho) hc.1 hc.2 (by decide) rfl rfl rfl (Nat.le_of_ble_eq_true rfl) ⟨by decide, by decide⟩ hl hr hs⟩) (fun v109 S108 h => ?_)
          refine m_icmpeq C (dOf DL_law_1 109 rfl) (tgt := 1092) rfl h (fun h => ?_) (fun h => ?_)
          · exact m_sub [0, 1, 2, 3] rfl (hj11 _ h)
          · refine m_iconst C (dOf DL_law_1 110 rfl) (v := 0) ki_0 ?_
            cases h
        refine m_ifeq C (dOf DL_law_1 104 rfl) (tgt := 451) rfl h (fun h => ?_) (fun h => ?_)
        · refine m_iconst C (dOf DL_law_1 107 rfl) (v := 0) ki_0 ?_
          exact m_sub [0, 1, 2, 3] rfl (hj107 _ h)
        · refine m_iconst C (dOf DL_law_1 105 rfl) (v := 1) ki_1 ?_
          refine m_goto C (dOf DL_law_1 106 rfl) (tgt := 452) rfl ?_
          exact m_sub [0, 1, 2, 3] rfl (hj107 _ h)
      refine m_ifeq C (dOf DL_law_1 93 rfl) (tgt := 434) rfl h (fun h => ?_) (fun h => ?_)
      · refine m_iconst C (dOf DL_law_1 96 rfl) (v := 0) ki_0 ?_
        exact m_sub [0, 1, 2, 3] rfl (hj102 _ h)
      · refine m_iconst C (dOf DL_law_1 94 rfl) (v := 1) ki_1 ?_
        refine m_goto C (dOf DL_law_1 95 rfl) (tgt := 435) rfl ?_
        exact m_sub [0, 1, 2, 3] rfl (hj102 _ h)
    refine m_sw h (fun e h => ?_) (fun n10 h => ?_)
    · refine m_tin C (dOf DL_law 21 rfl) 10 e (by decide) (by decide) (off := 428) rfl (tgt := 460) rfl ?_
      refine m_aload_n C (dOf DL_law_1 112 rfl) rfl 1 rfl ?_
      obtain ⟨hc, h⟩ := ck_spec h
      refine m_cI (st := []) h (fun o' ho H locs ls hl hr hs => ⟨_, m_runV C (dOf DL_law_1 113 rfl) km_L_60 ky_X8_read (by decide) ⟨rfl, rfl⟩ (c_X8_read _ G _ _ o' ho) hc.1 hc.2 (by decide) rfl rfl rfl (Nat.le_of_ble_eq_true rfl) ⟨by decide, by decide⟩ hl hr hs⟩) (fun v111 S110 h => ?_)
      refine m_aload_n C (dOf DL_law_1 114 rfl) rfl 2 rfl ?_
      obtain ⟨hc, h⟩ := ck_spec h
      refine m_cI (st := [.int v111]) h (fun o' ho H locs ls hl hr hs => ⟨_, m_runV C (dOf DL_law_1 115 rfl) km_L_63 ky_X9_read (by decide) ⟨rfl, rfl⟩ (c_X9_read _ G _ _ o' ho) hc.1 hc.2 (by decide) rfl rfl rfl (Nat.le_of_ble_eq_true rfl) ⟨by decide, by decide⟩ hl hr hs⟩) (fun v113 S112 h => ?_)
      refine m_icmpeq C (dOf DL_law_1 116 rfl) (tgt := 1092) rfl h (fun h => ?_) (fun h => ?_)
      · exact m_sub [0, 1, 2, 3] rfl (hj11 _ h)
      · refine m_iconst C (dOf DL_law_1 117 rfl) (v := 0) ki_0 ?_
        cases h
    refine m_sw h (fun e h => ?_) (fun n11 h => ?_)
    · refine m_tin C (dOf DL_law 21 rfl) 11 e (by decide) (by decide) (off := 441) rfl (tgt := 473) rfl ?_
      refine m_aload_n C (dOf DL_law_1 119 rfl) rfl 1 rfl ?_
      refine m_aload_n C (dOf DL_law_2 0 rfl) rfl 0 rfl ?_
      refine m_iload_n C (dOf DL_law_2 1 rfl) rfl 3 rfl ?_
      refine m_iconst C (dOf DL_law_2 2 rfl) (v := 1) ki_1 ?_
      refine m_iadd C (dOf DL_law_2 3 rfl) h (fun v114 h => ?_)
      refine m_sld C (dOf DL_law_2 4 rfl) hX hbl hbA h (fun v115 h => ?_)
      refine m_jn (J := fun (x116 : Int32) => WM X G 4 381 15013 (lw_Z (xb X) (xa X) (xs X)) 487 [(0, .ref b), (1, .ref (G.1 + a1)), (2, .ref (G.1 + a4)), (3, .int x7.1)] [.int x116, .ref (G.1 + a1)] x7.2) h (fun x116 h => ?_) (fun j116 hj116 h => ?_)
      · obtain ⟨hc, h⟩ := ck_spec h
        refine m_cI (st := []) h (fun o' ho H locs ls hl hr hs => ⟨_, m_runV C (dOf DL_law_2 9 rfl) km_L_64 ky_X8_mode (by decide) ⟨rfl, rfl⟩ (c_X8_mode _ G _ _ _ o' ho) hc.1 hc.2 (by decide) rfl rfl rfl (Nat.le_of_ble_eq_true rfl) ⟨by decide, by decide⟩ hl hr hs⟩) (fun v118 S117 h => ?_)
        refine m_aload_n C (dOf DL_law_2 10 rfl) rfl 2 rfl ?_
        refine m_aload_n C (dOf DL_law_2 11 rfl) rfl 0 rfl ?_
        refine m_iload_n C (dOf DL_law_2 12 rfl) rfl 3 rfl ?_
        refine m_iconst C (dOf DL_law_2 13 rfl) (v := 1) ki_1 ?_
        refine m_iadd C (dOf DL_law_2 14 rfl) h (fun v119 h => ?_)
        refine m_sld C (dOf DL_law_2 15 rfl) hX hbl hbA h (fun v120 h => ?_)
        refine m_jn (J := fun (x121 : Int32) => WM X G 4 381 15013 (lw_Z (xb X) (xa X) (xs X)) 504 [(0, .ref b), (1, .ref (G.1 + a1)), (2, .ref (G.1 + a4)), (3, .int x7.1)] [.int x121, .ref (G.1 + a4), .int v118] S117) h (fun x121 h => ?_) (fun j121 hj121 h => ?_)
        · obtain ⟨hc, h⟩ := ck_spec h
          refine m_cI (st := [.int v118]) h (fun o' ho H locs ls hl hr hs => ⟨_, m_runV C (dOf DL_law_2 20 rfl) km_L_68 ky_X9_mode (by decide) ⟨rfl, rfl⟩ (c_X9_mode _ G _ _ _ o' ho) hc.1 hc.2 (by decide) rfl rfl rfl (Nat.le_of_ble_eq_true rfl) ⟨by decide, by decide⟩ hl hr hs⟩) (fun v123 S122 h => ?_)
          refine m_icmpeq C (dOf DL_law_2 21 rfl) (tgt := 1092) rfl h (fun h => ?_) (fun h => ?_)
          · exact m_sub [0, 1, 2, 3] rfl (hj11 _ h)
          · refine m_iconst C (dOf DL_law_2 22 rfl) (v := 0) ki_0 ?_
            cases h
        refine m_ifeq C (dOf DL_law_2 16 rfl) (tgt := 503) rfl h (fun h => ?_) (fun h => ?_)
        · refine m_iconst C (dOf DL_law_2 19 rfl) (v := 0) ki_0 ?_
          exact m_sub [0, 1, 2, 3] rfl (hj121 _ h)
        · refine m_iconst C (dOf DL_law_2 17 rfl) (v := 1) ki_1 ?_
          refine m_goto C (dOf DL_law_2 18 rfl) (tgt := 504) rfl ?_
          exact m_sub [0, 1, 2, 3] rfl (hj121 _ h)
      refine m_ifeq C (dOf DL_law_2 5 rfl) (tgt := 486) rfl h (fun h => ?_) (fun h => ?_)
      · refine m_iconst C (dOf DL_law_2 8 rfl) (v := 0) ki_0 ?_
        exact m_sub [0, 1, 2, 3] rfl (hj116 _ h)
      · refine m_iconst C (dOf DL_law_2 6 rfl) (v := 1) ki_1 ?_
        refine m_goto C (dOf DL_law_2 7 rfl) (tgt := 487) rfl ?_
        exact m_sub [0, 1, 2, 3] rfl (hj116 _ h)
    refine m_sw h (fun e h => ?_) (fun n12 h => ?_)
    · refine m_tin C (dOf DL_law 21 rfl) 12 e (by decide) (by decide) (off := 480) rfl (tgt := 512) rfl ?_
      refine m_aload_n C (dOf DL_law_2 24 rfl) rfl 1 rfl ?_
      refine m_aload_n C (dOf DL_law_2 25 rfl) rfl 0 rfl ?_
      refine m_iload_n C (dOf DL_law_2 26 rfl) rfl 3 rfl ?_
      refine m_iconst C (dOf DL_law_2 27 rfl) (v := 1) ki_1 ?_
      refine m_iadd C (dOf DL_law_2 28 rfl) h (fun v124 h => ?_)
      refine m_sld C (dOf DL_law_2 29 rfl) hX hbl hbA h (fun v125 h => ?_)
      obtain ⟨hc, h⟩ := ck_spec h
      refine m_cI (st := []) h (fun o' ho H locs ls hl hr hs => ⟨_, m_runV C (dOf DL_law_2 30 rfl) km_L_69 ky_X8_mask (by decide) ⟨rfl, rfl⟩ (c_X8_mask _ G _ _ _ o' ho) hc.1 hc.2 (by decide) rfl rfl rfl (Nat.le_of_ble_eq_true rfl) ⟨by decide, by decide⟩ hl hr hs⟩) (fun v127 S126 h => ?_)
      refine m_aload_n C (dOf DL_law_2 31 rfl) rfl 2 rfl ?_
      refine m_aload_n C (dOf DL_law_2 32 rfl) rfl 0 rfl ?_
      refine m_iload_n C (dOf DL_law_2 33 rfl) rfl 3 rfl ?_
      refine m_iconst C (dOf DL_law_2 34 rfl) (v := 1) ki_1 ?_
      refine m_iadd C (dOf DL_law_2 35 rfl) h (fun v128 h => ?_)
      refine m_sld C (dOf DL_law_2 36 rfl) hX hbl hbA h (fun v129 h => ?_)
      obtain ⟨hc, h⟩ := ck_spec h
      refine m_cI (st := [.int v127]) h (fun o' ho H locs ls hl hr hs => ⟨_, m_runV C (dOf DL_law_2 37 rfl) km_L_73 ky_X9_mask (by decide) ⟨rfl, rfl⟩ (c_X9_mask _ G _ _ _ o' ho) hc.1 hc.2 (by decide) rfl rfl rfl (Nat.le_of_ble_eq_true rfl) ⟨by decide, by decide⟩ hl hr hs⟩) (fun v131 S130 h => ?_)
      refine m_icmpeq C (dOf DL_law_2 38 rfl) (tgt := 1092) rfl h (fun h => ?_) (fun h => ?_)
      · exact m_sub [0, 1, 2, 3] rfl (hj11 _ h)
      · refine m_iconst C (dOf DL_law_2 39 rfl) (v := 0) ki_0 ?_
        cases h
    refine m_sw h (fun e h => ?_) (fun n13 h => ?_)
    · refine m_tin C (dOf DL_law 21 rfl) 13 e (by decide) (by decide) (off := 503) rfl (tgt := 535) rfl ?_
      refine m_aload_n C (dOf DL_law_2 41 rfl) rfl 1 rfl ?_
      refine m_aload_n C (dOf DL_law_2 42 rfl) rfl 0 rfl ?_
      refine m_iload_n C (dOf DL_law_2 43 rfl) rfl 3 rfl ?_
      refine m_iconst C (dOf DL_law_2 44 rfl) (v := 1) ki_1 ?_
      refine m_iadd C (dOf DL_law_2 45 rfl) h (fun v132 h => ?_)
      refine m_sld C (dOf DL_law_2 46 rfl) hX hbl hbA h (fun v133 h => ?_)
      obtain ⟨hc, h⟩ := ck_spec h
      refine m_cI (st := []) h (fun o' ho H locs ls hl hr hs => ⟨_, m_runV C (dOf DL_law_2 47 rfl) km_L_74 ky_X8_resize (by decide) ⟨rfl, rfl⟩ (c_X8_resize _ G _ _ _ o' ho) hc.1 hc.2 (by decide) rfl rfl rfl (Nat.le_of_ble_eq_true rfl) ⟨by decide, by decide⟩ hl hr hs⟩) (fun v135 S134 h => ?_)
      refine m_aload_n C (dOf DL_law_2 48 rfl) rfl 2 rfl ?_
      refine m_aload_n C (dOf DL_law_2 49 rfl) rfl 0 rfl ?_
      refine m_iload_n C (dOf DL_law_2 50 rfl) rfl 3 rfl ?_
      refine m_iconst C (dOf DL_law_2 51 rfl) (v := 1) ki_1 ?_
      refine m_iadd C (dOf DL_law_2 52 rfl) h (fun v136 h => ?_)
      refine m_sld C (dOf DL_law_2 53 rfl) hX hbl hbA h (fun v137 h => ?_)
      obtain ⟨hc, h⟩ := ck_spec h
      refine m_cI (st := [.int v135]) h (fun o' ho H locs ls hl hr hs => ⟨_, m_runV C (dOf DL_law_2 54 rfl) km_L_77 ky_X9_resize (by decide) ⟨rfl, rfl⟩ (c_X9_resize _ G _ _ _ o' ho) hc.1 hc.2 (by decide) rfl rfl rfl (Nat.le_of_ble_eq_true rfl) ⟨by decide, by decide⟩ hl hr hs⟩) (fun v139 S138 h => ?_)
      refine m_icmpeq C (dOf DL_law_2 55 rfl) (tgt := 1092) rfl h (fun h => ?_) (fun h => ?_)
      · exact m_sub [0, 1, 2, 3] rfl (hj11 _ h)
      · refine m_iconst C (dOf DL_law_2 56 rfl) (v := 0) ki_0 ?_
        cases h
    refine m_sw h (fun e h => ?_) (fun n14 h => ?_)
    · refine m_tin C (dOf DL_law 21 rfl) 14 e (by decide) (by decide) (off := 526) rfl (tgt := 558) rfl ?_
      refine m_aload_n C (dOf DL_law_2 58 rfl) rfl 1 rfl ?_
      refine m_aload_n C (dOf DL_law_2 59 rfl) rfl 0 rfl ?_
      refine m_iload_n C (dOf DL_law_2 60 rfl) rfl 3 rfl ?_
      refine m_iconst C (dOf DL_law_2 61 rfl) (v := 1) ki_1 ?_
      refine m_iadd C (dOf DL_law_2 62 rfl) h (fun v140 h => ?_)
      refine m_sld C (dOf DL_law_2 63 rfl) hX hbl hbA h (fun v141 h => ?_)
      refine m_aload_n C (dOf DL_law_2 64 rfl) rfl 0 rfl ?_
      refine m_iload_n C (dOf DL_law_2 65 rfl) rfl 3 rfl ?_
      refine m_iconst C (dOf DL_law_2 66 rfl) (v := 2) ki_2 ?_
      refine m_iadd C (dOf DL_law_2 67 rfl) h (fun v142 h => ?_)
      refine m_sld C (dOf DL_law_2 68 rfl) hX hbl hbA h (fun v143 h => ?_)
      obtain ⟨hc, h⟩ := ck_spec h
      refine m_cI (st := []) h (fun o' ho H locs ls hl hr hs => ⟨_, m_runV C (dOf DL_law_2 69 rfl) km_L_78 ky_X8_storm (by decide) ⟨rfl, rfl⟩ (c_X8_storm _ G _ _ _ _ o' ho) hc.1 hc.2 (by decide) rfl rfl rfl (Nat.le_of_ble_eq_true rfl) ⟨by decide, by decide⟩ hl hr hs⟩) (fun v145 S144 h => ?_)
      refine m_aload_n C (dOf DL_law_2 70 rfl) rfl 2 rfl ?_
      refine m_aload_n C (dOf DL_law_2 71 rfl) rfl 0 rfl ?_
      refine m_iload_n C (dOf DL_law_2 72 rfl) rfl 3 rfl ?_
      refine m_iconst C (dOf DL_law_2 73 rfl) (v := 1) ki_1 ?_
      refine m_iadd C (dOf DL_law_2 74 rfl) h (fun v146 h => ?_)
      refine m_sld C (dOf DL_law_2 75 rfl) hX hbl hbA h (fun v147 h => ?_)
      refine m_aload_n C (dOf DL_law_2 76 rfl) rfl 0 rfl ?_
      refine m_iload_n C (dOf DL_law_2 77 rfl) rfl 3 rfl ?_
      refine m_iconst C (dOf DL_law_2 78 rfl) (v := 2) ki_2 ?_
      refine m_iadd C (dOf DL_law_2 79 rfl) h (fun v148 h => ?_)
      refine m_sld C (dOf DL_law_2 80 rfl) hX hbl hbA h (fun v149 h => ?_)
      obtain ⟨hc, h⟩ := ck_spec h
      refine m_cI (st := [.int v145]) h (fun o' ho H locs ls hl hr hs => ⟨_, m_runV C (dOf DL_law_2 81 rfl) km_L_81 ky_X9_storm (by decide) ⟨rfl, rfl⟩ (c_X9_storm _ G _ _ _ _ o' ho) hc.1 hc.2 (by decide) rfl rfl rfl (Nat.le_of_ble_eq_true rfl) ⟨by decide, by decide⟩ hl hr hs⟩) (fun v151 S150 h => ?_)
      refine m_icmpeq C (dOf DL_law_2 82 rfl) (tgt := 1092) rfl h (fun h => ?_) (fun h => ?_)
      · exact m_sub [0, 1, 2, 3] rfl (hj11 _ h)
      · refine m_iconst C (dOf DL_law_2 83 rfl) (v := 0) ki_0 ?_
        cases h
    refine m_sw h (fun e h => ?_) (fun n15 h => ?_)
    · refine m_tin C (dOf DL_law 21 rfl) 15 e (by decide) (by decide) (off := 559) rfl (tgt := 591) rfl ?_
      refine m_aload_n C (dOf DL_law_2 85 rfl) rfl 1 rfl ?_
      refine m_aload_n C (dOf DL_law_2 86 rfl) rfl 0 rfl ?_
      refine m_iload_n C (dOf DL_law_2 87 rfl) rfl 3 rfl ?_
      refine m_iconst C (dOf DL_law_2 88 rfl) (v := 1) ki_1 ?_
      refine m_iadd C (dOf DL_law_2 89 rfl) h (fun v152 h => ?_)
      refine m_sld C (dOf DL_law_2 90 rfl) hX hbl hbA h (fun v153 h => ?_)
      obtain ⟨hc, h⟩ := ck_spec h
      refine m_cP (st := []) h (fun o' ho H locs ls hl hr hs => ⟨_, m_runV C (dOf DL_law_2 91 rfl) km_L_82 ky_X8_count (by decide) ⟨rfl, rfl⟩ (c_X8_count _ G _ _ _ o' ho) hc.1 hc.2 (by decide) rfl rfl rfl (Nat.le_of_ble_eq_true rfl) ⟨by decide, by decide⟩ hl hr hs⟩) (fun v154 h => ?_)
      refine m_aload_n C (dOf DL_law_2 92 rfl) rfl 2 rfl ?_
      refine m_aload_n C (dOf DL_law_2 93 rfl) rfl 0 rfl ?_
      refine m_iload_n C (dOf DL_law_2 94 rfl) rfl 3 rfl ?_
      refine m_iconst C (dOf DL_law_2 95 rfl) (v := 1) ki_1 ?_
      refine m_iadd C (dOf DL_law_2 96 rfl) h (fun v155 h => ?_)
      refine m_sld C (dOf DL_law_2 97 rfl) hX hbl hbA h (fun v156 h => ?_)
      obtain ⟨hc, h⟩ := ck_spec h
      refine m_cI (st := [.int v154]) h (fun o' ho H locs ls hl hr hs => ⟨_, m_runV C (dOf DL_law_2 98 rfl) km_L_85 ky_X9_count (by decide) ⟨rfl, rfl⟩ (c_X9_count _ G _ _ _ o' ho) hc.1 hc.2 (by decide) rfl rfl rfl (Nat.le_of_ble_eq_true rfl) ⟨by decide, by decide⟩ hl hr hs⟩) (fun v158 S157 h => ?_)
      refine m_icmpeq C (dOf DL_law_2 99 rfl) (tgt := 1092) rfl h (fun h => ?_) (fun h => ?_)
      · exact m_sub [0, 1, 2, 3] rfl (hj11 _ h)
      · refine m_iconst C (dOf DL_law_2 100 rfl) (v := 0) ki_0 ?_
        cases h
    refine m_sw h (fun e h => ?_) (fun n16 h => ?_)
    · refine m_tin C (dOf DL_law 21 rfl) 16 e (by decide) (by decide) (off := 582) rfl (tgt := 614) rfl ?_
      refine m_aload_n C (dOf DL_law_2 102 rfl) rfl 1 rfl ?_
      refine m_aload_n C (dOf DL_law_2 103 rfl) rfl 0 rfl ?_
      refine m_iload_n C (dOf DL_law_2 104 rfl) rfl 3 rfl ?_
      refine m_iconst C (dOf DL_law_2 105 rfl) (v := 1) ki_1 ?_
      refine m_iadd C (dOf DL_law_2 106 rfl) h (fun v159 h => ?_)
      refine m_sld C (dOf DL_law_2 107 rfl) hX hbl hbA h (fun v160 h => ?_)
      refine m_aload_n C (dOf DL_law_2 108 rfl) rfl 0 rfl ?_
      refine m_iload_n C (dOf DL_law_2 109 rfl) rfl 3 rfl ?_
      refine m_iconst C (dOf DL_law_2 110 rfl) (v := 2) ki_2 ?_
      refine m_iadd C (dOf DL_law_2 111 rfl) h (fun v161 h => ?_)
      refine m_sld C (dOf DL_law_2 112 rfl) hX hbl hbA h (fun v162 h => ?_)
      obtain ⟨hc, h⟩ := ck_spec h
      refine m_cP (st := []) h (fun o' ho H locs ls hl hr hs => ⟨_, m_runV C (dOf DL_law_2 113 rfl) km_L_86 ky_X8_page (by decide) ⟨rfl, rfl⟩ (c_X8_page _ G _ _ _ _ o' ho) hc.1 hc.2 (by decide) rfl rfl rfl (Nat.le_of_ble_eq_true rfl) ⟨by decide, by decide⟩ hl hr hs⟩) (fun v163 h => ?_)
      refine m_aload_n C (dOf DL_law_2 114 rfl) rfl 2 rfl ?_
      refine m_aload_n C (dOf DL_law_2 115 rfl) rfl 0 rfl ?_
      refine m_iload_n C (dOf DL_law_2 116 rfl) rfl 3 rfl ?_
      refine m_iconst C (dOf DL_law_2 117 rfl) (v := 1) ki_1 ?_
      refine m_iadd C (dOf DL_law_2 118 rfl) h (fun v164 h => ?_)
      refine m_sld C (dOf DL_law_2 119 rfl) hX hbl hbA h (fun v165 h => ?_)
      refine m_aload_n C (dOf DL_law_3 0 rfl) rfl 0 rfl ?_
      refine m_iload_n C (dOf DL_law_3 1 rfl) rfl 3 rfl ?_
      refine m_iconst C (dOf DL_law_3 2 rfl) (v := 2) ki_2 ?_
      refine m_iadd C (dOf DL_law_3 3 rfl) h (fun v166 h => ?_)
      refine m_sld C (dOf DL_law_3 4 rfl) hX hbl hbA h (fun v167 h => ?_)
      obtain ⟨hc, h⟩ := ck_spec h
      refine m_cI (st := [.int v163]) h (fun o' ho H locs ls hl hr hs => ⟨_, m_runV C (dOf DL_law_3 5 rfl) km_L_89 ky_X9_page (by decide) ⟨rfl, rfl⟩ (c_X9_page _ G _ _ _ _ o' ho) hc.1 hc.2 (by decide) rfl rfl rfl (Nat.le_of_ble_eq_true rfl) ⟨by decide, by decide⟩ hl hr hs⟩) (fun v169 S168 h => ?_)
      refine m_icmpeq C (dOf DL_law_3 6 rfl) (tgt := 1092) rfl h (fun h => ?_) (fun h => ?_)
      · exact m_sub [0, 1, 2, 3] rfl (hj11 _ h)
      · refine m_iconst C (dOf DL_law_3 7 rfl) (v := 0) ki_0 ?_
        cases h
    refine m_sw h (fun e h => ?_) (fun n17 h => ?_)
    · refine m_tin C (dOf DL_law 21 rfl) 17 e (by decide) (by decide) (off := 615) rfl (tgt := 647) rfl ?_
      refine m_aload_n C (dOf DL_law_3 9 rfl) rfl 1 rfl ?_
      refine m_aload_n C (dOf DL_law_3 10 rfl) rfl 0 rfl ?_
      refine m_iload_n C (dOf DL_law_3 11 rfl) rfl 3 rfl ?_
      refine m_iconst C (dOf DL_law_3 12 rfl) (v := 1) ki_1 ?_
      refine m_iadd C (dOf DL_law_3 13 rfl) h (fun v170 h => ?_)
      refine m_sld C (dOf DL_law_3 14 rfl) hX hbl hbA h (fun v171 h => ?_)
      refine m_aload_n C (dOf DL_law_3 15 rfl) rfl 0 rfl ?_
      refine m_iload_n C (dOf DL_law_3 16 rfl) rfl 3 rfl ?_
      refine m_iconst C (dOf DL_law_3 17 rfl) (v := 2) ki_2 ?_
      refine m_iadd C (dOf DL_law_3 18 rfl) h (fun v172 h => ?_)
      refine m_sld C (dOf DL_law_3 19 rfl) hX hbl hbA h (fun v173 h => ?_)
      obtain ⟨hc, h⟩ := ck_spec h
      refine m_cP (st := []) h (fun o' ho H locs ls hl hr hs => ⟨_, m_runV C (dOf DL_law_3 20 rfl) km_L_90 ky_X8_cell (by decide) ⟨rfl, rfl⟩ (c_X8_cell _ G _ _ _ _ o' ho) hc.1 hc.2 (by decide) rfl rfl rfl (Nat.le_of_ble_eq_true rfl) ⟨by decide, by decide⟩ hl hr hs⟩) (fun v174 h => ?_)
      refine m_aload_n C (dOf DL_law_3 21 rfl) rfl 2 rfl ?_
      refine m_aload_n C (dOf DL_law_3 22 rfl) rfl 0 rfl ?_
      refine m_iload_n C (dOf DL_law_3 23 rfl) rfl 3 rfl ?_
      refine m_iconst C (dOf DL_law_3 24 rfl) (v := 1) ki_1 ?_
      refine m_iadd C (dOf DL_law_3 25 rfl) h (fun v175 h => ?_)
      refine m_sld C (dOf DL_law_3 26 rfl) hX hbl hbA h (fun v176 h => ?_)
      refine m_aload_n C (dOf DL_law_3 27 rfl) rfl 0 rfl ?_
      refine m_iload_n C (dOf DL_law_3 28 rfl) rfl 3 rfl ?_
      refine m_iconst C (dOf DL_law_3 29 rfl) (v := 2) ki_2 ?_
      refine m_iadd C (dOf DL_law_3 30 rfl) h (fun v177 h => ?_)
      refine m_sld C (dOf DL_law_3 31 rfl) hX hbl hbA h (fun v178 h => ?_)
      obtain ⟨hc, h⟩ := ck_spec h
      refine m_cI (st := [.int v174]) h (fun o' ho H locs ls hl hr hs => ⟨_, m_runV C (dOf DL_law_3 32 rfl) km_L_93 ky_X9_cell (by decide) ⟨rfl, rfl⟩ (c_X9_cell _ G _ _ _ _ o' ho) hc.1 hc.2 (by decide) rfl rfl rfl (Nat.le_of_ble_eq_true rfl) ⟨by decide, by decide⟩ hl hr hs⟩) (fun v180 S179 h => ?_)
      refine m_icmpeq C (dOf DL_law_3 33 rfl) (tgt := 1092) rfl h (fun h => ?_) (fun h => ?_)
      · exact m_sub [0, 1, 2, 3] rfl (hj11 _ h)
      · refine m_iconst C (dOf DL_law_3 34 rfl) (v := 0) ki_0 ?_
        cases h
    refine m_sw h (fun e h => ?_) (fun n18 h => ?_)
    · refine m_tin C (dOf DL_law 21 rfl) 18 e (by decide) (by decide) (off := 648) rfl (tgt := 680) rfl ?_
      refine m_aload_n C (dOf DL_law_3 36 rfl) rfl 1 rfl ?_
      refine m_aload_n C (dOf DL_law_3 37 rfl) rfl 0 rfl ?_
      refine m_iload_n C (dOf DL_law_3 38 rfl) rfl 3 rfl ?_
      refine m_iconst C (dOf DL_law_3 39 rfl) (v := 1) ki_1 ?_
      refine m_iadd C (dOf DL_law_3 40 rfl) h (fun v181 h => ?_)
      refine m_sld C (dOf DL_law_3 41 rfl) hX hbl hbA h (fun v182 h => ?_)
      refine m_aload_n C (dOf DL_law_3 42 rfl) rfl 0 rfl ?_
      refine m_iload_n C (dOf DL_law_3 43 rfl) rfl 3 rfl ?_
      refine m_iconst C (dOf DL_law_3 44 rfl) (v := 2) ki_2 ?_
      refine m_iadd C (dOf DL_law_3 45 rfl) h (fun v183 h => ?_)
      refine m_sld C (dOf DL_law_3 46 rfl) hX hbl hbA h (fun v184 h => ?_)
      obtain ⟨hc, h⟩ := ck_spec h
      refine m_cP (st := []) h (fun o' ho H locs ls hl hr hs => ⟨_, m_runV C (dOf DL_law_3 47 rfl) km_L_94 ky_X8_open (by decide) ⟨rfl, rfl⟩ (c_X8_open _ G _ _ _ _ o' ho) hc.1 hc.2 (by decide) rfl rfl rfl (Nat.le_of_ble_eq_true rfl) ⟨by decide, by decide⟩ hl hr hs⟩) (fun v185 h => ?_)
      refine m_aload_n C (dOf DL_law_3 48 rfl) rfl 2 rfl ?_
      refine m_aload_n C (dOf DL_law_3 49 rfl) rfl 0 rfl ?_
      refine m_iload_n C (dOf DL_law_3 50 rfl) rfl 3 rfl ?_
      refine m_iconst C (dOf DL_law_3 51 rfl) (v := 1) ki_1 ?_
      refine m_iadd C (dOf DL_law_3 52 rfl) h (fun v186 h => ?_)
      refine m_sld C (dOf DL_law_3 53 rfl) hX hbl hbA h (fun v187 h => ?_)
      refine m_aload_n C (dOf DL_law_3 54 rfl) rfl 0 rfl ?_
      refine m_iload_n C (dOf DL_law_3 55 rfl) rfl 3 rfl ?_
      refine m_iconst C (dOf DL_law_3 56 rfl) (v := 2) ki_2 ?_
      refine m_iadd C (dOf DL_law_3 57 rfl) h (fun v188 h => ?_)
      refine m_sld C (dOf DL_law_3 58 rfl) hX hbl hbA h (fun v189 h => ?_)
      obtain ⟨hc, h⟩ := ck_spec h
      refine m_cI (st := [.int v185]) h (fun o' ho H locs ls hl hr hs => ⟨_, m_runV C (dOf DL_law_3 59 rfl) km_L_97 ky_X9_open (by decide) ⟨rfl, rfl⟩ (c_X9_open _ G _ _ _ _ o' ho) hc.1 hc.2 (by decide) rfl rfl rfl (Nat.le_of_ble_eq_true rfl) ⟨by decide, by decide⟩ hl hr hs⟩) (fun v191 S190 h => ?_)
      refine m_icmpeq C (dOf DL_law_3 60 rfl) (tgt := 1092) rfl h (fun h => ?_) (fun h => ?_)
      · exact m_sub [0, 1, 2, 3] rfl (hj11 _ h)
      · refine m_iconst C (dOf DL_law_3 61 rfl) (v := 0) ki_0 ?_
        cases h
    refine m_sw h (fun e h => ?_) (fun n19 h => ?_)
    · refine m_tin C (dOf DL_law 21 rfl) 19 e (by decide) (by decide) (off := 681) rfl (tgt := 713) rfl ?_
      refine m_aload_n C (dOf DL_law_3 63 rfl) rfl 1 rfl ?_
      refine m_aload_n C (dOf DL_law_3 64 rfl) rfl 0 rfl ?_
      refine m_iload_n C (dOf DL_law_3 65 rfl) rfl 3 rfl ?_
      refine m_iconst C (dOf DL_law_3 66 rfl) (v := 1) ki_1 ?_
      refine m_iadd C (dOf DL_law_3 67 rfl) h (fun v192 h => ?_)
      refine m_sld C (dOf DL_law_3 68 rfl) hX hbl hbA h (fun v193 h => ?_)
      refine m_aload_n C (dOf DL_law_3 69 rfl) rfl 0 rfl ?_
      refine m_iload_n C (dOf DL_law_3 70 rfl) rfl 3 rfl ?_
      refine m_iconst C (dOf DL_law_3 71 rfl) (v := 2) ki_2 ?_
      refine m_iadd C (dOf DL_law_3 72 rfl) h (fun v194 h => ?_)
      refine m_sld C (dOf DL_law_3 73 rfl) hX hbl hbA h (fun v195 h => ?_)
      obtain ⟨hc, h⟩ := ck_spec h
      refine m_cP (st := []) h (fun o' ho H locs ls hl hr hs => ⟨_, m_runV C (dOf DL_law_3 74 rfl) km_L_98 ky_X8_record (by decide) ⟨rfl, rfl⟩ (c_X8_record _ G _ _ _ _ o' ho) hc.1 hc.2 (by decide) rfl rfl rfl (Nat.le_of_ble_eq_true rfl) ⟨by decide, by decide⟩ hl hr hs⟩) (fun v196 h => ?_)
      refine m_aload_n C (dOf DL_law_3 75 rfl) rfl 2 rfl ?_
      refine m_aload_n C (dOf DL_law_3 76 rfl) rfl 0 rfl ?_
      refine m_iload_n C (dOf DL_law_3 77 rfl) rfl 3 rfl ?_
      refine m_iconst C (dOf DL_law_3 78 rfl) (v := 1) ki_1 ?_
      refine m_iadd C (dOf DL_law_3 79 rfl) h (fun v197 h => ?_)
      refine m_sld C (dOf DL_law_3 80 rfl) hX hbl hbA h (fun v198 h => ?_)
      refine m_aload_n C (dOf DL_law_3 81 rfl) rfl 0 rfl ?_
      refine m_iload_n C (dOf DL_law_3 82 rfl) rfl 3 rfl ?_
      refine m_iconst C (dOf DL_law_3 83 rfl) (v := 2) ki_2 ?_
      refine m_iadd C (dOf DL_law_3 84 rfl) h (fun v199 h => ?_)
      refine m_sld C (dOf DL_law_3 85 rfl) hX hbl hbA h (fun v200 h => ?_)
      obtain ⟨hc, h⟩ := ck_spec h
      refine m_cI (st := [.int v196]) h (fun o' ho H locs ls hl hr hs => ⟨_, m_runV C (dOf DL_law_3 86 rfl) km_L_101 ky_X9_record (by decide) ⟨rfl, rfl⟩ (c_X9_record _ G _ _ _ _ o' ho) hc.1 hc.2 (by decide) rfl rfl rfl (Nat.le_of_ble_eq_true rfl) ⟨by decide, by decide⟩ hl hr hs⟩) (fun v202 S201 h => ?_)
      refine m_icmpeq C (dOf DL_law_3 87 rfl) (tgt := 1092) rfl h (fun h => ?_) (fun h => ?_)
      · exact m_sub [0, 1, 2, 3] rfl (hj11 _ h)
      · refine m_iconst C (dOf DL_law_3 88 rfl) (v := 0) ki_0 ?_
        cases h
    refine m_sw h (fun e h => ?_) (fun n20 h => ?_)
    · refine m_tin C (dOf DL_law 21 rfl) 20 e (by decide) (by decide) (off := 714) rfl (tgt := 746) rfl ?_
      refine m_aload_n C (dOf DL_law_3 90 rfl) rfl 1 rfl ?_
      refine m_aload_n C (dOf DL_law_3 91 rfl) rfl 0 rfl ?_
      refine m_iload_n C (dOf DL_law_3 92 rfl) rfl 3 rfl ?_
      refine m_iconst C (dOf DL_law_3 93 rfl) (v := 1) ki_1 ?_
      refine m_iadd C (dOf DL_law_3 94 rfl) h (fun v203 h => ?_)
      refine m_sld C (dOf DL_law_3 95 rfl) hX hbl hbA h (fun v204 h => ?_)
      obtain ⟨hc, h⟩ := ck_spec h
      refine m_cP (st := []) h (fun o' ho H locs ls hl hr hs => ⟨_, m_runV C (dOf DL_law_3 96 rfl) km_L_102 ky_X8_latest (by decide) ⟨rfl, rfl⟩ (c_X8_latest _ G _ _ _ o' ho) hc.1 hc.2 (by decide) rfl rfl rfl (Nat.le_of_ble_eq_true rfl) ⟨by decide, by decide⟩ hl hr hs⟩) (fun v205 h => ?_)
      refine m_aload_n C (dOf DL_law_3 97 rfl) rfl 2 rfl ?_
      refine m_aload_n C (dOf DL_law_3 98 rfl) rfl 0 rfl ?_
      refine m_iload_n C (dOf DL_law_3 99 rfl) rfl 3 rfl ?_
      refine m_iconst C (dOf DL_law_3 100 rfl) (v := 1) ki_1 ?_
      refine m_iadd C (dOf DL_law_3 101 rfl) h (fun v206 h => ?_)
      refine m_sld C (dOf DL_law_3 102 rfl) hX hbl hbA h (fun v207 h => ?_)
      obtain ⟨hc, h⟩ := ck_spec h
      refine m_cI (st := [.int v205]) h (fun o' ho H locs ls hl hr hs => ⟨_, m_runV C (dOf DL_law_3 103 rfl) km_L_105 ky_X9_latest (by decide) ⟨rfl, rfl⟩ (c_X9_latest _ G _ _ _ o' ho) hc.1 hc.2 (by decide) rfl rfl rfl (Nat.le_of_ble_eq_true rfl) ⟨by decide, by decide⟩ hl hr hs⟩) (fun v209 S208 h => ?_)
      refine m_icmpeq C (dOf DL_law_3 104 rfl) (tgt := 1092) rfl h (fun h => ?_) (fun h => ?_)
      · exact m_sub [0, 1, 2, 3] rfl (hj11 _ h)
      · refine m_iconst C (dOf DL_law_3 105 rfl) (v := 0) ki_0 ?_
        cases h
    refine m_sw h (fun e h => ?_) (fun n21 h => ?_)
    · refine m_tin C (dOf DL_law 21 rfl) 21 e (by decide) (by decide) (off := 737) rfl (tgt := 769) rfl ?_
      refine m_aload_n C (dOf DL_law_3 107 rfl) rfl 1 rfl ?_
      refine m_aload_n C (dOf DL_law_3 108 rfl) rfl 0 rfl ?_
      refine m_iload_n C (dOf DL_law_3 109 rfl) rfl 3 rfl ?_
      refine m_iconst C (dOf DL_law_3 110 rfl) (v := 1) ki_1 ?_
      refine m_iadd C (dOf DL_law_3 111 rfl) h (fun v210 h => ?_)
      refine m_sld C (dOf DL_law_3 112 rfl) hX hbl hbA h (fun v211 h => ?_)
      refine m_aload_n C (dOf DL_law_3 113 rfl) rfl 0 rfl ?_
      refine m_iload_n C (dOf DL_law_3 114 rfl) rfl 3 rfl ?_
      refine m_iconst C (dOf DL_law_3 115 rfl) (v := 2) ki_2 ?_
      refine m_iadd C (dOf DL_law_3 116 rfl) h (fun v212 h => ?_)
      refine m_sld C (dOf DL_law_3 117 rfl) hX hbl hbA h (fun v213 h => ?_)
      refine m_aload_n C (dOf DL_law_3 118 rfl) rfl 0 rfl ?_
      refine m_iload_n C (dOf DL_law_3 119 rfl) rfl 3 rfl ?_
      refine m_iconst C (dOf DL_law_4 0 rfl) (v := 3) ki_3 ?_
      refine m_iadd C (dOf DL_law_4 1 rfl) h (fun v214 h => ?_)
      refine m_sld C (dOf DL_law_4 2 rfl) hX hbl hbA h (fun v215 h => ?_)
      obtain ⟨hc, h⟩ := ck_spec h
      refine m_cP (st := []) h (fun o' ho H locs ls hl hr hs => ⟨_, m_runV C (dOf DL_law_4 3 rfl) km_L_106 ky_X8_parsed (by decide) ⟨rfl, rfl⟩ (c_X8_parsed _ G _ _ _ _ _ o' ho) hc.1 hc.2 (by decide) rfl rfl rfl (Nat.le_of_ble_eq_true rfl) ⟨by decide, by decide⟩ hl hr hs⟩) (fun v216 h => ?_)
      refine m_aload_n C (dOf DL_law_4 4 rfl) rfl 2 rfl ?_
      refine m_aload_n C (dOf DL_law_4 5 rfl) rfl 0 rfl ?_
      refine m_iload_n C (dOf DL_law_4 6 rfl) rfl 3 rfl ?_
      refine m_iconst C (dOf DL_law_4 7 rfl) (v := 1) ki_1 ?_
      refine m_iadd C (dOf DL_law_4 8 rfl) h (fun v217 h => ?_)
      refine m_sld C (dOf DL_law_4 9 rfl) hX hbl hbA h (fun v218 h => ?_)
      refine m_aload_n C (dOf DL_law_4 10 rfl) rfl 0 rfl ?_
      refine m_iload_n C (dOf DL_law_4 11 rfl) rfl 3 rfl ?_
      refine m_iconst C (dOf DL_law_4 12 rfl) (v := 2) ki_2 ?_
      refine m_iadd C (dOf DL_law_4 13 rfl) h (fun v219 h => ?_)
      refine m_sld C (dOf DL_law_4 14 rfl) hX hbl hbA h (fun v220 h => ?_)
      refine m_aload_n C (dOf DL_law_4 15 rfl) rfl 0 rfl ?_
      refine m_iload_n C (dOf DL_law_4 16 rfl) rfl 3 rfl ?_
      refine m_iconst C (dOf DL_law_4 17 rfl) (v := 3) ki_3 ?_
      refine m_iadd C (dOf DL_law_4 18 rfl) h (fun v221 h => ?_)
      refine m_sld C (dOf DL_law_4 19 rfl) hX hbl hbA h (fun v222 h => ?_)
      obtain ⟨hc, h⟩ := ck_spec h
      refine m_cI (st := [.int v216]) h (fun o' ho H locs ls hl hr hs => ⟨_, m_runV C (dOf DL_law_4 20 rfl) km_L_110 ky_X9_parsed (by decide) ⟨rfl, rfl⟩ (c_X9_parsed _ G _ _ _ _ _ o' ho) hc.1 hc.2 (by decide) rfl rfl rfl (Nat.le_of_ble_eq_true rfl) ⟨by decide, by decide⟩ hl hr hs⟩) (fun v224 S223 h => ?_)
      refine m_icmpeq C (dOf DL_law_4 21 rfl) (tgt := 1092) rfl h (fun h => ?_) (fun h => ?_)
      · exact m_sub [0, 1, 2, 3] rfl (hj11 _ h)
      · refine m_iconst C (dOf DL_law_4 22 rfl) (v := 0) ki_0 ?_
        cases h
    refine m_sw h (fun e h => ?_) (fun n22 h => ?_)
    · refine m_tin C (dOf DL_law 21 rfl) 22 e (by decide) (by decide) (off := 780) rfl (tgt := 812) rfl ?_
      refine m_aload_n C (dOf DL_law_4 24 rfl) rfl 1 rfl ?_
      refine m_aload_n C (dOf DL_law_4 25 rfl) rfl 0 rfl ?_
      refine m_iload_n C (dOf DL_law_4 26 rfl) rfl 3 rfl ?_
      refine m_iconst C (dOf DL_law_4 27 rfl) (v := 1) ki_1 ?_
      refine m_iadd C (dOf DL_law_4 28 rfl) h (fun v225 h => ?_)
      refine m_sld C (dOf DL_law_4 29 rfl) hX hbl hbA h (fun v226 h => ?_)
      refine m_aload_n C (dOf DL_law_4 30 rfl) rfl 0 rfl ?_
      refine m_iload_n C (dOf DL_law_4 31 rfl) rfl 3 rfl ?_
      refine m_iconst C (dOf DL_law_4 32 rfl) (v := 2) ki_2 ?_
      refine m_iadd C (dOf DL_law_4 33 rfl) h (fun v227 h => ?_)
      refine m_sld C (dOf DL_law_4 34 rfl) hX hbl hbA h (fun v228 h => ?_)
      refine m_aload_n C (dOf DL_law_4 35 rfl) rfl 0 rfl ?_
      refine m_iload_n C (dOf DL_law_4 36 rfl) rfl 3 rfl ?_
      refine m_iconst C (dOf DL_law_4 37 rfl) (v := 3) ki_3 ?_
      refine m_iadd C (dOf DL_law_4 38 rfl) h (fun v229 h => ?_)
      refine m_sld C (dOf DL_law_4 39 rfl) hX hbl hbA h (fun v230 h => ?_)
      refine m_jn (J := fun (x231 : Int32) => WM X G 4 381 15013 (lw_Z (xb X) (xa X) (xs X)) 836 [(0, .ref b), (1, .ref (G.1 + a1)), (2, .ref (G.1 + a4)), (3, .int x7.1)] [.int x231, .int v228, .int v226, .ref (G.1 + a1)] x7.2) h (fun x231 h => ?_) (fun j231 hj231 h => ?_)
      · obtain ⟨hc, h⟩ := ck_spec h
        refine m_cP (st := []) h (fun o' ho H locs ls hl hr hs => ⟨_, m_runV C (dOf DL_law_4 44 rfl) km_L_111 ky_X8_between (by decide) ⟨rfl, rfl⟩ (c_X8_between _ G _ _ _ _ _ o' ho) hc.1 hc.2 (by decide) rfl rfl rfl (Nat.le_of_ble_eq_true rfl) ⟨by decide, by decide⟩ hl hr hs⟩) (fun v232 h => ?_)
        refine m_aload_n C (dOf DL_law_4 45 rfl) rfl 2 rfl ?_
        refine m_aload_n C (dOf DL_law_4 46 rfl) rfl 0 rfl ?_
        refine m_iload_n C (dOf DL_law_4 47 rfl) rfl 3 rfl ?_
        refine m_iconst C (dOf DL_law_4 48 rfl) (v := 1) ki_1 ?_
        refine m_iadd C (dOf DL_law_4 49 rfl) h (fun v233 h => ?_)
        refine m_sld C (dOf DL_law_4 50 rfl) hX hbl hbA h (fun v234 h => ?_)
        refine m_aload_n C (dOf DL_law_4 51 rfl) rfl 0 rfl ?_
        refine m_iload_n C (dOf DL_law_4 52 rfl) rfl 3 rfl ?_
        refine m_iconst C (dOf DL_law_4 53 rfl) (v := 2) ki_2 ?_
        refine m_iadd C (dOf DL_law_4 54 rfl) h (fun v235 h => ?_)
        refine m_sld C (dOf DL_law_4 55 rfl) hX hbl hbA h (fun v236 h => ?_)
        refine m_aload_n C (dOf DL_law_4 56 rfl) rfl 0 rfl ?_
        refine m_iload_n C (dOf DL_law_4 57 rfl) rfl 3 rfl ?_
        refine m_iconst C (dOf DL_law_4 58 rfl) (v := 3) ki_3 ?_
        refine m_iadd C (dOf DL_law_4 59 rfl) h (fun v237 h => ?_)
        refine m_sld C (dOf DL_law_4 60 rfl) hX hbl hbA h (fun v238 h => ?_)
        refine m_jn (J := fun (x239 : Int32) => WM X G 4 381 15013 (lw_Z (xb X) (xa X) (xs X)) 863 [(0, .ref b), (1, .ref (G.1 + a1)), (2, .ref (G.1 + a4)), (3, .int x7.1)] [.int x239, .int v236, .int v234, .ref (G.1 + a4), .int v232] x7.2) h (fun x239 h => ?_) (fun j239 hj239 h => ?_)
        · obtain ⟨hc, h⟩ := ck_spec h
          refine m_cI (st := [.int v232]) h (fun o' ho H locs ls hl hr hs => ⟨_, m_runV C (dOf DL_law_4 65 rfl) km_L_115 ky_X9_between (by decide) ⟨rfl, rfl⟩ (c_X9_between _ G _ _ _ _ _ o' ho) hc.1 hc.2 (by decide) rfl rfl rfl (Nat.le_of_ble_eq_true rfl) ⟨by decide, by decide⟩ hl hr hs⟩) (fun v241 S240 h => ?_)
          refine m_icmpeq C (dOf DL_law_4 66 rfl) (tgt := 1092) rfl h (fun h => ?_) (fun h => ?_)
          · exact m_sub [0, 1, 2, 3] rfl (hj11 _ h)
          · refine m_iconst C (dOf DL_law_4 67 rfl) (v := 0) ki_0 ?_
            cases h
        refine m_ifeq C (dOf DL_law_4 61 rfl) (tgt := 862) rfl h (fun h => ?_) (fun h => ?_)
        · refine m_iconst C (dOf DL_law_4 64 rfl) (v := 0) ki_0 ?_
          exact m_sub [0, 1, 2, 3] rfl (hj239 _ h)
        · refine m_iconst C (dOf DL_law_4 62 rfl) (v := 1) ki_1 ?_
          refine m_goto C (dOf DL_law_4 63 rfl) (tgt := 863) rfl ?_
          exact m_sub [0, 1, 2, 3] rfl (hj239 _ h)
      refine m_ifeq C (dOf DL_law_4 40 rfl) (tgt := 835) rfl h (fun h => ?_) (fun h => ?_)
      · refine m_iconst C (dOf DL_law_4 43 rfl) (v := 0) ki_0 ?_
        exact m_sub [0, 1, 2, 3] rfl (hj231 _ h)
      · refine m_iconst C (dOf DL_law_4 41 rfl) (v := 1) ki_1 ?_
        refine m_goto C (dOf DL_law_4 42 rfl) (tgt := 836) rfl ?_
        exact m_sub [0, 1, 2, 3] rfl (hj231 _ h)
    refine m_sw h (fun e h => ?_) (fun n23 h => ?_)
    · refine m_tin C (dOf DL_law 21 rfl) 23 e (by decide) (by decide) (off := 839) rfl (tgt := 871) rfl ?_
      refine m_aload_n C (dOf DL_law_4 69 rfl) rfl 1 rfl ?_
      refine m_aload_n C (dOf DL_law_4 70 rfl) rfl 0 rfl ?_
      refine m_iload_n C (dOf DL_law_4 71 rfl) rfl 3 rfl ?_
      refine m_iconst C (dOf DL_law_4 72 rfl) (v := 1) ki_1 ?_
      refine m_iadd C (dOf DL_law_4 73 rfl) h (fun v242 h => ?_)
      refine m_sld C (dOf DL_law_4 74 rfl) hX hbl hbA h (fun v243 h => ?_)
      refine m_aload_n C (dOf DL_law_4 75 rfl) rfl 0 rfl ?_
      refine m_iload_n C (dOf DL_law_4 76 rfl) rfl 3 rfl ?_
      refine m_iconst C (dOf DL_law_4 77 rfl) (v := 2) ki_2 ?_
      refine m_iadd C (dOf DL_law_4 78 rfl) h (fun v244 h => ?_)
      refine m_sld C (dOf DL_law_4 79 rfl) hX hbl hbA h (fun v245 h => ?_)
      refine m_aload_n C (dOf DL_law_4 80 rfl) rfl 0 rfl ?_
      refine m_iload_n C (dOf DL_law_4 81 rfl) rfl 3 rfl ?_
      refine m_iconst C (dOf DL_law_4 82 rfl) (v := 3) ki_3 ?_
      refine m_iadd C (dOf DL_law_4 83 rfl) h (fun v246 h => ?_)
      refine m_sld C (dOf DL_law_4 84 rfl) hX hbl hbA h (fun v247 h => ?_)
      obtain ⟨hc, h⟩ := ck_spec h
      refine m_cP (st := []) h (fun o' ho H locs ls hl hr hs => ⟨_, m_runV C (dOf DL_law_4 85 rfl) km_L_116 ky_X8_sum (by decide) ⟨rfl, rfl⟩ (c_X8_sum _ G _ _ _ _ _ o' ho) hc.1 hc.2 (by decide) rfl rfl rfl (Nat.le_of_ble_eq_true rfl) ⟨by decide, by decide⟩ hl hr hs⟩) (fun v248 h => ?_)
      refine m_aload_n C (dOf DL_law_4 86 rfl) rfl 2 rfl ?_
      refine m_aload_n C (dOf DL_law_4 87 rfl) rfl 0 rfl ?_
      refine m_iload_n C (dOf DL_law_4 88 rfl) rfl 3 rfl ?_
      refine m_iconst C (dOf DL_law_4 89 rfl) (v := 1) ki_1 ?_
      refine m_iadd C (dOf DL_law_4 90 rfl) h (fun v249 h => ?_)
      refine m_sld C (dOf DL_law_4 91 rfl) hX hbl hbA h (fun v250 h => ?_)
      refine m_aload_n C (dOf DL_law_4 92 rfl) rfl 0 rfl ?_
      refine m_iload_n C (dOf DL_law_4 93 rfl) rfl 3 rfl ?_
      refine m_iconst C (dOf DL_law_4 94 rfl) (v := 2) ki_2 ?_
      refine m_iadd C (dOf DL_law_4 95 rfl) h (fun v251 h => ?_)
      refine m_sld C (dOf DL_law_4 96 rfl) hX hbl hbA h (fun v252 h => ?_)
      refine m_aload_n C (dOf DL_law_4 97 rfl) rfl 0 rfl ?_
      refine m_iload_n C (dOf DL_law_4 98 rfl) rfl 3 rfl ?_
      refine m_iconst C (dOf DL_law_4 99 rfl) (v := 3) ki_3 ?_
      refine m_iadd C (dOf DL_law_4 100 rfl) h (fun v253 h => ?_)
      refine m_sld C (dOf DL_law_4 101 rfl) hX hbl hbA h (fun v254 h => ?_)
      obtain ⟨hc, h⟩ := ck_spec h
      refine m_cI (st := [.int v248]) h (fun o' ho H locs ls hl hr hs => ⟨_, m_runV C (dOf DL_law_4 102 rfl) km_L_119 ky_X9_sum (by decide) ⟨rfl, rfl⟩ (c_X9_sum _ G _ _ _ _ _ o' ho) hc.1 hc.2 (by decide) rfl rfl rfl (Nat.le_of_ble_eq_true rfl) ⟨by decide, by decide⟩ hl hr hs⟩) (fun v256 S255 h => ?_)
      refine m_icmpeq C (dOf DL_law_4 103 rfl) (tgt := 1092) rfl h (fun h => ?_) (fun h => ?_)
      · exact m_sub [0, 1, 2, 3] rfl (hj11 _ h)
      · refine m_iconst C (dOf DL_law_4 104 rfl) (v := 0) ki_0 ?_
        cases h
    refine m_sw h (fun e h => ?_) (fun n24 h => ?_)
    · refine m_tin C (dOf DL_law 21 rfl) 24 e (by decide) (by decide) (off := 882) rfl (tgt := 914) rfl ?_
      refine m_aload_n C (dOf DL_law_4 106 rfl) rfl 1 rfl ?_
      refine m_aload_n C (dOf DL_law_4 107 rfl) rfl 0 rfl ?_
      refine m_iload_n C (dOf DL_law_4 108 rfl) rfl 3 rfl ?_
      refine m_iconst C (dOf DL_law_4 109 rfl) (v := 1) ki_1 ?_
      refine m_iadd C (dOf DL_law_4 110 rfl) h (fun v257 h => ?_)
      refine m_sld C (dOf DL_law_4 111 rfl) hX hbl hbA h (fun v258 h => ?_)
      refine m_aload_n C (dOf DL_law_4 112 rfl) rfl 0 rfl ?_
      refine m_iload_n C (dOf DL_law_4 113 rfl) rfl 3 rfl ?_
      refine m_iconst C (dOf DL_law_4 114 rfl) (v := 2) ki_2 ?_
      refine m_iadd C (dOf DL_law_4 115 rfl) h (fun v259 h => ?_)
      refine m_sld C (dOf DL_law_4 116 rfl) hX hbl hbA h (fun v260 h => ?_)
      obtain ⟨hc, h⟩ := ck_spec h
      refine m_cP (st := []) h (fun o' ho H locs ls hl hr hs => ⟨_, m_runV C (dOf DL_law_4 117 rfl) km_L_120 ky_X8_would (by decide) ⟨rfl, rfl⟩ (c_X8_would _ G _ _ _ _ o' ho) hc.1 hc.2 (by decide) rfl rfl rfl (Nat.le_of_ble_eq_true rfl) ⟨by decide, by decide⟩ hl hr hs⟩) (fun v261 h => ?_)
      refine m_aload_n C (dOf DL_law_4 118 rfl) rfl 2 rfl ?_
      refine m_aload_n C (dOf DL_law_4 119 rfl) rfl 0 rfl ?_
      refine m_iload_n C (dOf DL_law_5 0 rfl) rfl 3 rfl ?_
      refine m_iconst C (dOf DL_law_5 1 rfl) (v := 1) ki_1 ?_
      refine m_iadd C (dOf DL_law_5 2 rfl) h (fun v262 h => ?_)
      refine m_sld C (dOf DL_law_5 3 rfl) hX hbl hbA h (fun v263 h => ?_)
      refine m_aload_n C (dOf DL_law_5 4 rfl) rfl 0 rfl ?_
      refine m_iload_n C (dOf DL_law_5 5 rfl) rfl 3 rfl ?_
      refine m_iconst C (dOf DL_law_5 6 rfl) (v := 2) ki_2 ?_
      refine m_iadd C (dOf DL_law_5 7 rfl) h (fun v264 h => ?_)
      refine m_sld C (dOf DL_law_5 8 rfl) hX hbl hbA h (fun v265 h => ?_)
      obtain ⟨hc, h⟩ := ck_spec h
      refine m_cI (st := [.int v261]) h (fun o' ho H locs ls hl hr hs => ⟨_, m_runV C (dOf DL_law_5 9 rfl) km_L_123 ky_X9_would (by decide) ⟨rfl, rfl⟩ (c_X9_would _ G _ _ _ _ o' ho) hc.1 hc.2 (by decide) rfl rfl rfl (Nat.le_of_ble_eq_true rfl) ⟨by decide, by decide⟩ hl hr hs⟩) (fun v267 S266 h => ?_)
      refine m_icmpeq C (dOf DL_law_5 10 rfl) (tgt := 1092) rfl h (fun h => ?_) (fun h => ?_)
      · exact m_sub [0, 1, 2, 3] rfl (hj11 _ h)
      · refine m_iconst C (dOf DL_law_5 11 rfl) (v := 0) ki_0 ?_
        cases h
    refine m_sw h (fun e h => ?_) (fun n25 h => ?_)
    · refine m_tin C (dOf DL_law 21 rfl) 25 e (by decide) (by decide) (off := 915) rfl (tgt := 947) rfl ?_
      refine m_aload_n C (dOf DL_law_5 13 rfl) rfl 1 rfl ?_
      refine m_aload_n C (dOf DL_law_5 14 rfl) rfl 0 rfl ?_
      refine m_iload_n C (dOf DL_law_5 15 rfl) rfl 3 rfl ?_
      refine m_iconst C (dOf DL_law_5 16 rfl) (v := 1) ki_1 ?_
      refine m_iadd C (dOf DL_law_5 17 rfl) h (fun v268 h => ?_)
      refine m_sld C (dOf DL_law_5 18 rfl) hX hbl hbA h (fun v269 h => ?_)
      obtain ⟨hc, h⟩ := ck_spec h
      refine m_cP (st := []) h (fun o' ho H locs ls hl hr hs => ⟨_, m_runV C (dOf DL_law_5 19 rfl) km_L_124 ky_X8_room (by decide) ⟨rfl, rfl⟩ (c_X8_room _ G _ _ _ o' ho) hc.1 hc.2 (by decide) rfl rfl rfl (Nat.le_of_ble_eq_true rfl) ⟨by decide, by decide⟩ hl hr hs⟩) (fun v270 h => ?_)
      refine m_aload_n C (dOf DL_law_5 20 rfl) rfl 2 rfl ?_
      refine m_aload_n C (dOf DL_law_5 21 rfl) rfl 0 rfl ?_
      refine m_iload_n C (dOf DL_law_5 22 rfl) rfl 3 rfl ?_
      refine m_iconst C (dOf DL_law_5 23 rfl) (v := 1) ki_1 ?_
      refine m_iadd C (dOf DL_law_5 24 rfl) h (fun v271 h => ?_)
      refine m_sld C (dOf DL_law_5 25 rfl) hX hbl hbA h (fun v272 h => ?_)
      obtain ⟨hc, h⟩ := ck_spec h
      refine m_cI (st := [.int v270]) h (fun o' ho H locs ls hl hr hs => ⟨_, m_runV C (dOf DL_law_5 26 rfl) km_L_127 ky_X9_room (by decide) ⟨rfl, rfl⟩ (c_X9_room _ G _ _ _ o' ho) hc.1 hc.2 (by decide) rfl rfl rfl (Nat.le_of_ble_eq_true rfl) ⟨by decide, by decide⟩ hl hr hs⟩) (fun v274 S273 h => ?_)
      refine m_icmpeq C (dOf DL_law_5 27 rfl) (tgt := 1092) rfl h (fun h => ?_) (fun h => ?_)
      · exact m_sub [0, 1, 2, 3] rfl (hj11 _ h)
      · refine m_iconst C (dOf DL_law_5 28 rfl) (v := 0) ki_0 ?_
        cases h
    refine m_sw h (fun e h => ?_) (fun n26 h => ?_)
    · refine m_tin C (dOf DL_law 21 rfl) 26 e (by decide) (by decide) (off := 938) rfl (tgt := 970) rfl ?_
      refine m_aload_n C (dOf DL_law_5 30 rfl) rfl 1 rfl ?_
      refine m_aload_n C (dOf DL_law_5 31 rfl) rfl 0 rfl ?_
      refine m_iload_n C (dOf DL_law_5 32 rfl) rfl 3 rfl ?_
      refine m_iconst C (dOf DL_law_5 33 rfl) (v := 1) ki_1 ?_
      refine m_iadd C (dOf DL_law_5 34 rfl) h (fun v275 h => ?_)
      refine m_sld C (dOf DL_law_5 35 rfl) hX hbl hbA h (fun v276 h => ?_)
      refine m_aload_n C (dOf DL_law_5 36 rfl) rfl 0 rfl ?_
      refine m_iload_n C (dOf DL_law_5 37 rfl) rfl 3 rfl ?_
      refine m_iconst C (dOf DL_law_5 38 rfl) (v := 2) ki_2 ?_
      refine m_iadd C (dOf DL_law_5 39 rfl) h (fun v277 h => ?_)
      refine m_sld C (dOf DL_law_5 40 rfl) hX hbl hbA h (fun v278 h => ?_)
      refine m_aload_n C (dOf DL_law_5 41 rfl) rfl 0 rfl ?_
      refine m_iload_n C (dOf DL_law_5 42 rfl) rfl 3 rfl ?_
      refine m_iconst C (dOf DL_law_5 43 rfl) (v := 3) ki_3 ?_
      refine m_iadd C (dOf DL_law_5 44 rfl) h (fun v279 h => ?_)
      refine m_sld C (dOf DL_law_5 45 rfl) hX hbl hbA h (fun v280 h => ?_)
      obtain ⟨hc, h⟩ := ck_spec h
      refine m_cI (st := []) h (fun o' ho H locs ls hl hr hs => ⟨_, m_runV C (dOf DL_law_5 46 rfl) km_L_128 ky_X8_after (by decide) ⟨rfl, rfl⟩ (c_X8_after _ G _ _ _ _ _ o' ho) hc.1 hc.2 (by decide) rfl rfl rfl (Nat.le_of_ble_eq_true rfl) ⟨by decide, by decide⟩ hl hr hs⟩) (fun v282 S281 h => ?_)
      refine m_aload_n C (dOf DL_law_5 47 rfl) rfl 2 rfl ?_
      refine m_aload_n C (dOf DL_law_5 48 rfl) rfl 0 rfl ?_
      refine m_iload_n C (dOf DL_law_5 49 rfl) rfl 3 rfl ?_
      refine m_iconst C (dOf DL_law_5 50 rfl) (v := 1) ki_1 ?_
      refine m_iadd C (dOf DL_law_5 51 rfl) h (fun v283 h => ?_)
      refine m_sld C (dOf DL_law_5 52 rfl) hX hbl hbA h (fun v284 h => ?_)
      refine m_aload_n C (dOf DL_law_5 53 rfl) rfl 0 rfl ?_
      refine m_iload_n C (dOf DL_law_5 54 rfl) rfl 3 rfl ?_
      refine m_iconst C (dOf DL_law_5 55 rfl) (v := 2) ki_2 ?_
      refine m_iadd C (dOf DL_law_5 56 rfl) h (fun v285 h => ?_)
      refine m_sld C (dOf DL_law_5 57 rfl) hX hbl hbA h (fun v286 h => ?_)
      refine m_aload_n C (dOf DL_law_5 58 rfl) rfl 0 rfl ?_
      refine m_iload_n C (dOf DL_law_5 59 rfl) rfl 3 rfl ?_
      refine m_iconst C (dOf DL_law_5 60 rfl) (v := 3) ki_3 ?_
      refine m_iadd C (dOf DL_law_5 61 rfl) h (fun v287 h => ?_)
      refine m_sld C (dOf DL_law_5 62 rfl) hX hbl hbA h (fun v288 h => ?_)
      obtain ⟨hc, h⟩ := ck_spec h
      refine m_cI (st := [.int v282]) h (fun o' ho H locs ls hl hr hs => ⟨_, m_runV C (dOf DL_law_5 63 rfl) km_L_131 ky_X9_after (by decide) ⟨rfl, rfl⟩ (c_X9_after _ G _ _ _ _ _ o' ho) hc.1 hc.2 (by decide) rfl rfl rfl (Nat.le_of_ble_eq_true rfl) ⟨by decide, by decide⟩ hl hr hs⟩) (fun v290 S289 h => ?_)
      refine m_icmpeq C (dOf DL_law_5 64 rfl) (tgt := 1092) rfl h (fun h => ?_) (fun h => ?_)
      · exact m_sub [0, 1, 2, 3] rfl (hj11 _ h)
      · refine m_iconst C (dOf DL_law_5 65 rfl) (v := 0) ki_0 ?_
        cases h
    refine m_sw h (fun e h => ?_) (fun n27 h => ?_)
    · refine m_tin C (dOf DL_law 21 rfl) 27 e (by decide) (by decide) (off := 981) rfl (tgt := 1013) rfl ?_
      refine m_aload_n C (dOf DL_law_5 67 rfl) rfl 1 rfl ?_
      refine m_aload_n C (dOf DL_law_5 68 rfl) rfl 0 rfl ?_
      refine m_iload_n C (dOf DL_law_5 69 rfl) rfl 3 rfl ?_
      refine m_iconst C (dOf DL_law_5 70 rfl) (v := 1) ki_1 ?_
      refine m_iadd C (dOf DL_law_5 71 rfl) h (fun v291 h => ?_)
      refine m_sld C (dOf DL_law_5 72 rfl) hX hbl hbA h (fun v292 h => ?_)
      refine m_aload_n C (dOf DL_law_5 73 rfl) rfl 0 rfl ?_
      refine m_iload_n C (dOf DL_law_5 74 rfl) rfl 3 rfl ?_
      refine m_iconst C (dOf DL_law_5 75 rfl) (v := 2) ki_2 ?_
      refine m_iadd C (dOf DL_law_5 76 rfl) h (fun v293 h => ?_)
      refine m_sld C (dOf DL_law_5 77 rfl) hX hbl hbA h (fun v294 h => ?_)
      obtain ⟨hc, h⟩ := ck_spec h
      refine m_cI (st := []) h (fun o' ho H locs ls hl hr hs => ⟨_, m_runV C (dOf DL_law_5 78 rfl) km_L_132 ky_X8_fewest (by decide) ⟨rfl, rfl⟩ (c_X8_fewest _ G _ _ _ _ o' ho) hc.1 hc.2 (by decide) rfl rfl rfl (Nat.le_of_ble_eq_true rfl) ⟨by decide, by decide⟩ hl hr hs⟩) (fun v296 S295 h => ?_)
      refine m_aload_n C (dOf DL_law_5 79 rfl) rfl 2 rfl ?_
      refine m_aload_n C (dOf DL_law_5 80 rfl) rfl 0 rfl ?_
      refine m_iload_n C (dOf DL_law_5 81 rfl) rfl 3 rfl ?_
      refine m_iconst C (dOf DL_law_5 82 rfl) (v := 1) ki_1 ?_
      refine m_iadd C (dOf DL_law_5 83 rfl) h (fun v297 h => ?_)
      refine m_sld C (dOf DL_law_5 84 rfl) hX hbl hbA h (fun v298 h => ?_)
      refine m_aload_n C (dOf DL_law_5 85 rfl) rfl 0 rfl ?_
      refine m_iload_n C (dOf DL_law_5 86 rfl) rfl 3 rfl ?_
      refine m_iconst C (dOf DL_law_5 87 rfl) (v := 2) ki_2 ?_
      refine m_iadd C (dOf DL_law_5 88 rfl) h (fun v299 h => ?_)
      refine m_sld C (dOf DL_law_5 89 rfl) hX hbl hbA h (fun v300 h => ?_)
      obtain ⟨hc, h⟩ := ck_spec h
      refine m_cI (st := [.int v296]) h (fun o' ho H locs ls hl hr hs => ⟨_, m_runV C (dOf DL_law_5 90 rfl) km_L_135 ky_X9_fewest (by decide) ⟨rfl, rfl⟩ (c_X9_fewest _ G _ _ _ _ o' ho) hc.1 hc.2 (by decide) rfl rfl rfl (Nat.le_of_ble_eq_true rfl) ⟨by decide, by decide⟩ hl hr hs⟩) (fun v302 S301 h => ?_)
      refine m_icmpeq C (dOf DL_law_5 91 rfl) (tgt := 1092) rfl h (fun h => ?_) (fun h => ?_)
      · exact m_sub [0, 1, 2, 3] rfl (hj11 _ h)
      · refine m_iconst C (dOf DL_law_5 92 rfl) (v := 0) ki_0 ?_
        cases h
    refine m_sw h (fun e h => ?_) (fun n28 h => ?_)
    · refine m_tin C (dOf DL_law 21 rfl) 28 e (by decide) (by decide) (off := 1014) rfl (tgt := 1046) rfl ?_
      refine m_aload_n C (dOf DL_law_5 94 rfl) rfl 1 rfl ?_
      refine m_aload_n C (dOf DL_law_5 95 rfl) rfl 0 rfl ?_
      refine m_iload_n C (dOf DL_law_5 96 rfl) rfl 3 rfl ?_
      refine m_iconst C (dOf DL_law_5 97 rfl) (v := 1) ki_1 ?_
      refine m_iadd C (dOf DL_law_5 98 rfl) h (fun v303 h => ?_)
      refine m_sld C (dOf DL_law_5 99 rfl) hX hbl hbA h (fun v304 h => ?_)
      obtain ⟨hc, h⟩ := ck_spec h
      refine m_cI (st := []) h (fun o' ho H locs ls hl hr hs => ⟨_, m_runV C (dOf DL_law_5 100 rfl) km_L_136 ky_X8_image (by decide) ⟨rfl, rfl⟩ (c_X8_image _ G _ _ _ o' ho) hc.1 hc.2 (by decide) rfl rfl rfl (Nat.le_of_ble_eq_true rfl) ⟨by decide, by decide⟩ hl hr hs⟩) (fun v306 S305 h => ?_)
      refine m_aload_n C (dOf DL_law_5 101 rfl) rfl 2 rfl ?_
      refine m_aload_n C (dOf DL_law_5 102 rfl) rfl 0 rfl ?_
      refine m_iload_n C (dOf DL_law_5 103 rfl) rfl 3 rfl ?_
      refine m_iconst C (dOf DL_law_5 104 rfl) (v := 1) ki_1 ?_
      refine m_iadd C (dOf DL_law_5 105 rfl) h (fun v307 h => ?_)
      refine m_sld C (dOf DL_law_5 106 rfl) hX hbl hbA h (fun v308 h => ?_)
      obtain ⟨hc, h⟩ := ck_spec h
      refine m_cI (st := [.int v306]) h (fun o' ho H locs ls hl hr hs => ⟨_, m_runV C (dOf DL_law_5 107 rfl) km_L_139 ky_X9_image (by decide) ⟨rfl, rfl⟩ (c_X9_image _ G _ _ _ o' ho) hc.1 hc.2 (by decide) rfl rfl rfl (Nat.le_of_ble_eq_true rfl) ⟨by decide, by decide⟩ hl hr hs⟩) (fun v310 S309 h => ?_)
      refine m_icmpeq C (dOf DL_law_5 108 rfl) (tgt := 1092) rfl h (fun h => ?_) (fun h => ?_)
      · exact m_sub [0, 1, 2, 3] rfl (hj11 _ h)
      · refine m_iconst C (dOf DL_law_5 109 rfl) (v := 0) ki_0 ?_
        cases h
    refine m_sw h (fun e h => ?_) (fun n29 h => ?_)
    · refine m_tin C (dOf DL_law 21 rfl) 29 e (by decide) (by decide) (off := 1037) rfl (tgt := 1069) rfl ?_
      refine m_aload_n C (dOf DL_law_5 111 rfl) rfl 1 rfl ?_
      refine m_aload_n C (dOf DL_law_5 112 rfl) rfl 0 rfl ?_
      refine m_iload_n C (dOf DL_law_5 113 rfl) rfl 3 rfl ?_
      refine m_iconst C (dOf DL_law_5 114 rfl) (v := 1) ki_1 ?_
      refine m_iadd C (dOf DL_law_5 115 rfl) h (fun v311 h => ?_)
      refine m_sld C (dOf DL_law_5 116 rfl) hX hbl hbA h (fun v312 h => ?_)
      obtain ⟨hc, h⟩ := ck_spec h
      refine m_cI (st := []) h (fun o' ho H locs ls hl hr hs => ⟨_, m_runV C (dOf DL_law_5 117 rfl) km_L_140 ky_X8_again (by decide) ⟨rfl, rfl⟩ (c_X8_again _ G _ _ _ o' ho) hc.1 hc.2 (by decide) rfl rfl rfl (Nat.le_of_ble_eq_true rfl) ⟨by decide, by decide⟩ hl hr hs⟩) (fun v314 S313 h => ?_)
      refine m_aload_n C (dOf DL_law_5 118 rfl) rfl 2 rfl ?_
      refine m_aload_n C (dOf DL_law_5 119 rfl) rfl 0 rfl ?_
      refine m_iload_n C (dOf DL_law_6 0 rfl) rfl 3 rfl ?_
      refine m_iconst C (dOf DL_law_6 1 rfl) (v := 1) ki_1 ?_
      refine m_iadd C (dOf DL_law_6 2 rfl) h (fun v315 h => ?_)
      refine m_sld C (dOf DL_law_6 3 rfl) hX hbl hbA h (fun v316 h => ?_)
      obtain ⟨hc, h⟩ := ck_spec h
      refine m_cI (st := [.int v314]) h (fun o' ho H locs ls hl hr hs => ⟨_, m_runV C (dOf DL_law_6 4 rfl) km_L_143 ky_X9_again (by decide) ⟨rfl, rfl⟩ (c_X9_again _ G _ _ _ o' ho) hc.1 hc.2 (by decide) rfl rfl rfl (Nat.le_of_ble_eq_true rfl) ⟨by decide, by decide⟩ hl hr hs⟩) (fun v318 S317 h => ?_)
      refine m_icmpeq C (dOf DL_law_6 5 rfl) (tgt := 1092) rfl h (fun h => ?_) (fun h => ?_)
      · exact m_sub [0, 1, 2, 3] rfl (hj11 _ h)
      · refine m_iconst C (dOf DL_law_6 6 rfl) (v := 0) ki_0 ?_
        cases h
    have qn0 := neT n0 kt_0
    have qn1 := neT n1 kt_1
    have qn2 := neT n2 kt_2
    have qn3 := neT n3 kt_3
    have qn4 := neT n4 kt_4
    have qn5 := neT n5 kt_5
    have qn6 := neT n6 kt_6
    have qn7 := neT n7 kt_7
    have qn8 := neT n8 kt_8
    have qn9 := neT n9 kt_9
    have qn10 := neT n10 kt_10
    have qn11 := neT n11 kt_11
    have qn12 := neT n12 kt_12
    have qn13 := neT n13 kt_13
    have qn14 := neT n14 kt_14
    have qn15 := neT n15 kt_15
    have qn16 := neT n16 kt_16
    have qn17 := neT n17 kt_17
    have qn18 := neT n18 kt_18
    have qn19 := neT n19 kt_19
    have qn20 := neT n20 kt_20
    have qn21 := neT n21 kt_21
    have qn22 := neT n22 kt_22
    have qn23 := neT n23 kt_23
    have qn24 := neT n24 kt_24
    have qn25 := neT n25 kt_25
    have qn26 := neT n26 kt_26
    have qn27 := neT n27 kt_27
    have qn28 := neT n28 kt_28
    have qn29 := neT n29 kt_29
    refine m_tout C (dOf DL_law 21 rfl) (tgt := 1092) (by omega) rfl ?_
    exact m_sub [0, 1, 2, 3] rfl (hj11 _ h)
