def f_L_law_L23 (a0 : Nat) (a1 : Nat) (a2 : Nat) (a3 : Nat) (z : Int32) (h : JH) : Option ((Int32 ⊕ (Int32 ⊕ Int32)) × JH) :=
  (jal h a0).bind fun v11 =>
  if (v11 - (6 : Int32)) < z then
    some (.inr (.inr z), h)
  else
    (jaI h a0 z).bind fun v13 =>
    if v13 &&& (31 : Int32) = (0 : Int32) then
      (jaI h a0 (z + (1 : Int32))).bind fun v15 =>
      (jaI h a0 (z + (2 : Int32))).bind fun v17 =>
      (jaI h a0 (z + (3 : Int32))).bind fun v19 =>
      (jaI h a0 (z + (4 : Int32))).bind fun v21 =>
      (jaI h a0 (z + (5 : Int32))).bind fun v23 =>
      (jrecv h a1 8).bind fun u41 =>
      (f_X11_feed a1 v15 v17 v19 v21 v23 h).bind fun q25 =>
      (jaI q25.2 a0 (z + (1 : Int32))).bind fun v27 =>
      (jaI q25.2 a0 (z + (2 : Int32))).bind fun v29 =>
      (jaI q25.2 a0 (z + (3 : Int32))).bind fun v31 =>
      (jaI q25.2 a0 (z + (4 : Int32))).bind fun v33 =>
      (jaI q25.2 a0 (z + (5 : Int32))).bind fun v35 =>
      (jrecv q25.2 a2 9).bind fun u39 =>
      (f_X12_feed a2 v27 v29 v31 v33 v35 q25.2).bind fun q37 =>
      if q25.1 = q37.1 then
        some (.inl (z + (6 : Int32)), q37.2)
      else
        some (.inr (.inl (0 : Int32)), q37.2)
    else if v13 &&& (31 : Int32) = (1 : Int32) then
      (jaI h a0 (z + (1 : Int32))).bind fun v43 =>
      (jrecv h a1 8).bind fun u53 =>
      (f_X11_book a1 v43 h).bind fun q45 =>
      (jaI q45.2 a0 (z + (1 : Int32))).bind fun v47 =>
      (jrecv q45.2 a2 9).bind fun u51 =>
      (f_X12_book a2 v47 q45.2).bind fun q49 =>
      if q45.1 = q49.1 then
        some (.inl (z + (6 : Int32)), q49.2)
      else
        some (.inr (.inl (0 : Int32)), q49.2)
    else if v13 &&& (31 : Int32) = (2 : Int32) then
      (jaI h a0 (z + (1 : Int32))).bind fun v55 =>
      (jrecv h a1 8).bind fun u65 =>
      (f_X11_count a1 v55 h).bind fun q57 =>
      (jaI q57.2 a0 (z + (1 : Int32))).bind fun v59 =>
      (jrecv q57.2 a2 9).bind fun u63 =>
      (f_X12_count a2 v59 q57.2).bind fun q61 =>
      if q57.1 = q61.1 then
        some (.inl (z + (6 : Int32)), q61.2)
      else
        some (.inr (.inl (0 : Int32)), q61.2)
    else if v13 &&& (31 : Int32) = (3 : Int32) then
      (jaI h a0 (z + (1 : Int32))).bind fun v67 =>
      (jaI h a0 (z + (2 : Int32))).bind fun v69 =>
      (jrecv h a1 8).bind fun u81 =>
      (f_X11_let a1 v67 v69 h).bind fun q71 =>
      (jaI q71.2 a0 (z + (1 : Int32))).bind fun v73 =>
      (jaI q71.2 a0 (z + (2 : Int32))).bind fun v75 =>
      (jrecv q71.2 a2 9).bind fun u79 =>
      (f_X12_let a2 v73 v75 q71.2).bind fun q77 =>
      if q71.1 = q77.1 then
        some (.inl (z + (6 : Int32)), q77.2)
      else
        some (.inr (.inl (0 : Int32)), q77.2)
    else if v13 &&& (31 : Int32) = (4 : Int32) then
      (jaI h a0 (z + (1 : Int32))).bind fun v83 =>
      (jaI h a0 (z + (2 : Int32))).bind fun v85 =>
      (jrecv h a1 8).bind fun u97 =>
      (f_X11_coefficient a1 v83 v85 h).bind fun q87 =>
      (jaI q87.2 a0 (z + (1 : Int32))).bind fun v89 =>
      (jaI q87.2 a0 (z + (2 : Int32))).bind fun v91 =>
      (jrecv q87.2 a2 9).bind fun u95 =>
      (f_X12_coefficient a2 v89 v91 q87.2).bind fun q93 =>
      if q87.1 = q93.1 then
        some (.inl (z + (6 : Int32)), q93.2)
      else
        some (.inr (.inl (0 : Int32)), q93.2)
    else if v13 &&& (31 : Int32) = (5 : Int32) then
      (jaI h a0 (z + (1 : Int32))).bind fun v99 =>
      (jrecv h a1 8).bind fun u109 =>
      (f_X11_weight a1 v99 h).bind fun q101 =>
      (jaI q101.2 a0 (z + (1 : Int32))).bind fun v103 =>
      (jrecv q101.2 a2 9).bind fun u107 =>
      (f_X12_weight a2 v103 q101.2).bind fun q105 =>
      if q101.1 = q105.1 then
        some (.inl (z + (6 : Int32)), q105.2)
      else
        some (.inr (.inl (0 : Int32)), q105.2)
    else if v13 &&& (31 : Int32) = (6 : Int32) then
      (jaI h a0 (z + (1 : Int32))).bind fun v111 =>
      (jaI h a0 (z + (2 : Int32))).bind fun v113 =>
      if v113 = (0 : Int32) then
        (jrecv h a1 8).bind fun u129 =>
        (f_X11_makes a1 v111 (0 : Int32) h).bind fun q115 =>
        (jaI q115.2 a0 (z + (1 : Int32))).bind fun v117 =>
        (jaI q115.2 a0 (z + (2 : Int32))).bind fun v119 =>
        if v119 = (0 : Int32) then
          (jrecv q115.2 a2 9).bind fun u123 =>
          (f_X12_makes a2 v117 (0 : Int32) q115.2).bind fun q121 =>
          if q115.1 = q121.1 then
            some (.inl (z + (6 : Int32)), q121.2)
          else
            some (.inr (.inl (0 : Int32)), q121.2)
        else
          (jrecv q115.2 a2 9).bind fun u127 =>
          (f_X12_makes a2 v117 (1 : Int32) q115.2).bind fun q125 =>
          if q115.1 = q125.1 then
            some (.inl (z + (6 : Int32)), q125.2)
          else
            some (.inr (.inl (0 : Int32)), q125.2)
      else
        (jrecv h a1 8).bind fun u145 =>
        (f_X11_makes a1 v111 (1 : Int32) h).bind fun q131 =>
        (jaI q131.2 a0 (z + (1 : Int32))).bind fun v133 =>
        (jaI q131.2 a0 (z + (2 : Int32))).bind fun v135 =>
        if v135 = (0 : Int32) then
          (jrecv q131.2 a2 9).bind fun u139 =>
          (f_X12_makes a2 v133 (0 : Int32) q131.2).bind fun q137 =>
          if q131.1 = q137.1 then
            some (.inl (z + (6 : Int32)), q137.2)
          else
            some (.inr (.inl (0 : Int32)), q137.2)
        else
          (jrecv q131.2 a2 9).bind fun u143 =>
          (f_X12_makes a2 v133 (1 : Int32) q131.2).bind fun q141 =>
          if q131.1 = q141.1 then
            some (.inl (z + (6 : Int32)), q141.2)
          else
            some (.inr (.inl (0 : Int32)), q141.2)
    else if v13 &&& (31 : Int32) = (7 : Int32) then
      (jaI h a0 (z + (1 : Int32))).bind fun v147 =>
      (f_L_whole a1 v147 a3 h).bind fun q149 =>
      (jaI q149.2 a0 (z + (1 : Int32))).bind fun v151 =>
      (jrecv q149.2 a2 9).bind fun u161 =>
      (f_X12_whole a2 v151 q149.2).bind fun q153 =>
      (jrecv q153.2 a2 9).bind fun u159 =>
      (f_X12_thrown a2 q153.2).bind fun q155 =>
      if q155.1 = q149.1 then
        if q149.1 = (0 : Int32) then
          (jaJ q155.2 a3 (0 : Int32)).bind fun v157 =>
          if (lg_cmp v157 q153.1.toInt64) = (0 : Int32) then
            some (.inl (z + (6 : Int32)), q155.2)
          else
            some (.inr (.inl (0 : Int32)), q155.2)
        else
          some (.inl (z + (6 : Int32)), q155.2)
      else
        some (.inr (.inl (0 : Int32)), q155.2)
    else if v13 &&& (31 : Int32) = (8 : Int32) then
      (jaI h a0 (z + (1 : Int32))).bind fun v163 =>
      (jrecv h a1 8).bind fun u173 =>
      (f_X11_small a1 v163 h).bind fun q165 =>
      (jaI q165.2 a0 (z + (1 : Int32))).bind fun v167 =>
      (jrecv q165.2 a2 9).bind fun u171 =>
      (f_X12_small a2 v167 q165.2).bind fun q169 =>
      if q165.1 = q169.1 then
        some (.inl (z + (6 : Int32)), q169.2)
      else
        some (.inr (.inl (0 : Int32)), q169.2)
    else if v13 &&& (31 : Int32) = (9 : Int32) then
      (jaI h a0 (z + (1 : Int32))).bind fun v175 =>
      (jaI h a0 (z + (2 : Int32))).bind fun v177 =>
      (jrecv h a1 8).bind fun u189 =>
      (f_X11_trace a1 v175 v177 h).bind fun q179 =>
      (jaI q179.2 a0 (z + (1 : Int32))).bind fun v181 =>
      (jaI q179.2 a0 (z + (2 : Int32))).bind fun v183 =>
      (jrecv q179.2 a2 9).bind fun u187 =>
      (f_X12_trace a2 v181 v183 q179.2).bind fun q185 =>
      if (lg_cmp q179.1 q185.1) = (0 : Int32) then
        some (.inl (z + (6 : Int32)), q185.2)
      else
        some (.inr (.inl (0 : Int32)), q185.2)
    else if v13 &&& (31 : Int32) = (10 : Int32) then
      (jaI h a0 (z + (1 : Int32))).bind fun v191 =>
      (jaI h a0 (z + (2 : Int32))).bind fun v193 =>
      (jrecv h a1 8).bind fun u205 =>
      (f_X11_traceLeft a1 v191 v193 h).bind fun q195 =>
      (jaI q195.2 a0 (z + (1 : Int32))).bind fun v197 =>
      (jaI q195.2 a0 (z + (2 : Int32))).bind fun v199 =>
      (jrecv q195.2 a2 9).bind fun u203 =>
      (f_X12_traceLeft a2 v197 v199 q195.2).bind fun q201 =>
      if q195.1 = q201.1 then
        some (.inl (z + (6 : Int32)), q201.2)
      else
        some (.inr (.inl (0 : Int32)), q201.2)
    else if v13 &&& (31 : Int32) = (11 : Int32) then
      (jaI h a0 (z + (1 : Int32))).bind fun v207 =>
      (jaI h a0 (z + (2 : Int32))).bind fun v209 =>
      (jrecv h a1 8).bind fun u221 =>
      (f_X11_share a1 v207 v209 h).bind fun q211 =>
      (jaI q211.2 a0 (z + (1 : Int32))).bind fun v213 =>
      (jaI q211.2 a0 (z + (2 : Int32))).bind fun v215 =>
      (jrecv q211.2 a2 9).bind fun u219 =>
      (f_X12_share a2 v213 v215 q211.2).bind fun q217 =>
      if q211.1 = q217.1 then
        some (.inl (z + (6 : Int32)), q217.2)
      else
        some (.inr (.inl (0 : Int32)), q217.2)
    else if v13 &&& (31 : Int32) = (12 : Int32) then
      (jaI h a0 (z + (1 : Int32))).bind fun v223 =>
      (jaI h a0 (z + (2 : Int32))).bind fun v225 =>
      (jrecv h a1 8).bind fun u237 =>
      (f_X11_take a1 v223 v225 h).bind fun q227 =>
      (jaI q227.2 a0 (z + (1 : Int32))).bind fun v229 =>
      (jaI q227.2 a0 (z + (2 : Int32))).bind fun v231 =>
      (jrecv q227.2 a2 9).bind fun u235 =>
      (f_X12_take a2 v229 v231 q227.2).bind fun q233 =>
      if q227.1 = q233.1 then
        some (.inl (z + (6 : Int32)), q233.2)
      else
        some (.inr (.inl (0 : Int32)), q233.2)
    else if v13 &&& (31 : Int32) = (13 : Int32) then
      (jaI h a0 (z + (1 : Int32))).bind fun v239 =>
      (jaI h a0 (z + (2 : Int32))).bind fun v241 =>
      (jaI h a0 (z + (3 : Int32))).bind fun v243 =>
      (jrecv h a1 8).bind fun u257 =>
      (f_X11_plus a1 v239 v241 v243 h).bind fun q245 =>
      (jaI q245.2 a0 (z + (1 : Int32))).bind fun v247 =>
      (jaI q245.2 a0 (z + (2 : Int32))).bind fun v249 =>
      (jaI q245.2 a0 (z + (3 : Int32))).bind fun v251 =>
      (jrecv q245.2 a2 9).bind fun u255 =>
      (f_X12_plus_ a2 v247 v249 v251 q245.2).bind fun q253 =>
      if q245.1 = q253.1 then
        some (.inl (z + (6 : Int32)), q253.2)
      else
        some (.inr (.inl (0 : Int32)), q253.2)
    else if v13 &&& (31 : Int32) = (14 : Int32) then
      (jaI h a0 (z + (1 : Int32))).bind fun v259 =>
      (jaI h a0 (z + (2 : Int32))).bind fun v261 =>
      (jrecv h a1 8).bind fun u273 =>
      (f_X11_times a1 v259 v261 h).bind fun q263 =>
      (jaI q263.2 a0 (z + (1 : Int32))).bind fun v265 =>
      (jaI q263.2 a0 (z + (2 : Int32))).bind fun v267 =>
      (jrecv q263.2 a2 9).bind fun u271 =>
      (f_X12_times_ a2 v265 v267 q263.2).bind fun q269 =>
      if q263.1 = q269.1 then
        some (.inl (z + (6 : Int32)), q269.2)
      else
        some (.inr (.inl (0 : Int32)), q269.2)
    else if v13 &&& (31 : Int32) = (15 : Int32) then
      (jaI h a0 (z + (1 : Int32))).bind fun v275 =>
      (jaI h a0 (z + (2 : Int32))).bind fun v277 =>
      (jrecv h a1 8).bind fun u289 =>
      (f_X11_hecke a1 v275 v277 h).bind fun q279 =>
      (jaI q279.2 a0 (z + (1 : Int32))).bind fun v281 =>
      (jaI q279.2 a0 (z + (2 : Int32))).bind fun v283 =>
      (jrecv q279.2 a2 9).bind fun u287 =>
      (f_X12_hecke a2 v281 v283 q279.2).bind fun q285 =>
      if q279.1 = q285.1 then
        some (.inl (z + (6 : Int32)), q285.2)
      else
        some (.inr (.inl (0 : Int32)), q285.2)
    else if v13 &&& (31 : Int32) = (16 : Int32) then
      (jaI h a0 (z + (1 : Int32))).bind fun v291 =>
      (jaI h a0 (z + (2 : Int32))).bind fun v293 =>
      (jrecv h a1 8).bind fun u305 =>
      (f_X11_multiplies a1 v291 v293 h).bind fun q295 =>
      (jaI q295.2 a0 (z + (1 : Int32))).bind fun v297 =>
      (jaI q295.2 a0 (z + (2 : Int32))).bind fun v299 =>
      (jrecv q295.2 a2 9).bind fun u303 =>
      (f_X12_multiplies_ a2 v297 v299 q295.2).bind fun q301 =>
      if q295.1 = q301.1 then
        some (.inl (z + (6 : Int32)), q301.2)
      else
        some (.inr (.inl (0 : Int32)), q301.2)
    else if v13 &&& (31 : Int32) = (17 : Int32) then
      (jaI h a0 (z + (1 : Int32))).bind fun v307 =>
      (jaI h a0 (z + (2 : Int32))).bind fun v309 =>
      (jaI h a0 (z + (3 : Int32))).bind fun v311 =>
      (jrecv h a1 8).bind fun u325 =>
      (f_X11_alike a1 v307 v309 v311 h).bind fun q313 =>
      (jaI q313.2 a0 (z + (1 : Int32))).bind fun v315 =>
      (jaI q313.2 a0 (z + (2 : Int32))).bind fun v317 =>
      (jaI q313.2 a0 (z + (3 : Int32))).bind fun v319 =>
      (jrecv q313.2 a2 9).bind fun u323 =>
      (f_X12_alike a2 v315 v317 v319 q313.2).bind fun q321 =>
      if q313.1 = q321.1 then
        some (.inl (z + (6 : Int32)), q321.2)
      else
        some (.inr (.inl (0 : Int32)), q321.2)
    else if v13 &&& (31 : Int32) = (18 : Int32) then
      (jaI h a0 (z + (1 : Int32))).bind fun v327 =>
      (jaI h a0 (z + (2 : Int32))).bind fun v329 =>
      (jrecv h a1 8).bind fun u341 =>
      (f_X11_parts a1 v327 v329 h).bind fun q331 =>
      (jaI q331.2 a0 (z + (1 : Int32))).bind fun v333 =>
      (jaI q331.2 a0 (z + (2 : Int32))).bind fun v335 =>
      (jrecv q331.2 a2 9).bind fun u339 =>
      (f_X12_parts a2 v333 v335 q331.2).bind fun q337 =>
      if q331.1 = q337.1 then
        some (.inl (z + (6 : Int32)), q337.2)
      else
        some (.inr (.inl (0 : Int32)), q337.2)
    else if v13 &&& (31 : Int32) = (19 : Int32) then
      (jaI h a0 (z + (1 : Int32))).bind fun v343 =>
      (jaI h a0 (z + (2 : Int32))).bind fun v345 =>
      (jaI h a0 (z + (3 : Int32))).bind fun v347 =>
      (jaI h a0 (z + (4 : Int32))).bind fun v349 =>
      (jrecv h a1 8).bind fun u365 =>
      (f_X11_table a1 v343 v345 v347 v349 h).bind fun q351 =>
      (jaI q351.2 a0 (z + (1 : Int32))).bind fun v353 =>
      (jaI q351.2 a0 (z + (2 : Int32))).bind fun v355 =>
      (jaI q351.2 a0 (z + (3 : Int32))).bind fun v357 =>
      (jaI q351.2 a0 (z + (4 : Int32))).bind fun v359 =>
      (jrecv q351.2 a2 9).bind fun u363 =>
      (f_X12_table a2 v353 v355 v357 v359 q351.2).bind fun q361 =>
      if q351.1 = q361.1 then
        some (.inl (z + (6 : Int32)), q361.2)
      else
        some (.inr (.inl (0 : Int32)), q361.2)
    else if v13 &&& (31 : Int32) = (20 : Int32) then
      (jaI h a0 (z + (1 : Int32))).bind fun v367 =>
      (jaI h a0 (z + (2 : Int32))).bind fun v369 =>
      (jaI h a0 (z + (3 : Int32))).bind fun v371 =>
      (jrecv h a1 8).bind fun u385 =>
      (f_X11_polynomial a1 v367 v369 v371 h).bind fun q373 =>
      (jaI q373.2 a0 (z + (1 : Int32))).bind fun v375 =>
      (jaI q373.2 a0 (z + (2 : Int32))).bind fun v377 =>
      (jaI q373.2 a0 (z + (3 : Int32))).bind fun v379 =>
      (jrecv q373.2 a2 9).bind fun u383 =>
      (f_X12_polynomial a2 v375 v377 v379 q373.2).bind fun q381 =>
      if q373.1 = q381.1 then
        some (.inl (z + (6 : Int32)), q381.2)
      else
        some (.inr (.inl (0 : Int32)), q381.2)
    else if v13 &&& (31 : Int32) = (21 : Int32) then
      (jaI h a0 (z + (1 : Int32))).bind fun v387 =>
      (jaI h a0 (z + (2 : Int32))).bind fun v389 =>
      (jrecv h a1 8).bind fun u401 =>
      (f_X11_root a1 v387 v389 h).bind fun q391 =>
      (jaI q391.2 a0 (z + (1 : Int32))).bind fun v393 =>
      (jaI q391.2 a0 (z + (2 : Int32))).bind fun v395 =>
      (jrecv q391.2 a2 9).bind fun u399 =>
      (f_X12_root a2 v393 v395 q391.2).bind fun q397 =>
      if q391.1 = q397.1 then
        some (.inl (z + (6 : Int32)), q397.2)
      else
        some (.inr (.inl (0 : Int32)), q397.2)
    else if v13 &&& (31 : Int32) = (22 : Int32) then
      (jaI h a0 (z + (1 : Int32))).bind fun v403 =>
      (jaI h a0 (z + (2 : Int32))).bind fun v405 =>
      (jaI h a0 (z + (3 : Int32))).bind fun v407 =>
      (jrecv h a1 8).bind fun u421 =>
      (f_X11_own a1 v403 v405 v407 h).bind fun q409 =>
      (jaI q409.2 a0 (z + (1 : Int32))).bind fun v411 =>
      (jaI q409.2 a0 (z + (2 : Int32))).bind fun v413 =>
      (jaI q409.2 a0 (z + (3 : Int32))).bind fun v415 =>
      (jrecv q409.2 a2 9).bind fun u419 =>
      (f_X12_own a2 v411 v413 v415 q409.2).bind fun q417 =>
      if q409.1 = q417.1 then
        some (.inl (z + (6 : Int32)), q417.2)
      else
        some (.inr (.inl (0 : Int32)), q417.2)
    else if v13 &&& (31 : Int32) = (23 : Int32) then
      (jaI h a0 (z + (1 : Int32))).bind fun v423 =>
      (jaI h a0 (z + (2 : Int32))).bind fun v425 =>
      (jaI h a0 (z + (3 : Int32))).bind fun v427 =>
      if v427 = (0 : Int32) then
        (jaI h a0 (z + (4 : Int32))).bind fun v429 =>
        (jrecv h a1 8).bind fun u451 =>
        (f_X11_put a1 v423 v425 (0 : Int32) v429 h).bind fun q431 =>
        (jaI q431.2 a0 (z + (1 : Int32))).bind fun v433 =>
        (jaI q431.2 a0 (z + (2 : Int32))).bind fun v435 =>
        (jaI q431.2 a0 (z + (3 : Int32))).bind fun v437 =>
        if v437 = (0 : Int32) then
          (jaI q431.2 a0 (z + (4 : Int32))).bind fun v439 =>
          (jrecv q431.2 a2 9).bind fun u443 =>
          (f_X12_put a2 v433 v435 (0 : Int32) v439 q431.2).bind fun q441 =>
          if q431.1 = q441.1 then
            some (.inl (z + (6 : Int32)), q441.2)
          else
            some (.inr (.inl (0 : Int32)), q441.2)
        else
          (jaI q431.2 a0 (z + (4 : Int32))).bind fun v445 =>
          (jrecv q431.2 a2 9).bind fun u449 =>
          (f_X12_put a2 v433 v435 (1 : Int32) v445 q431.2).bind fun q447 =>
          if q431.1 = q447.1 then
            some (.inl (z + (6 : Int32)), q447.2)
          else
            some (.inr (.inl (0 : Int32)), q447.2)
      else
        (jaI h a0 (z + (4 : Int32))).bind fun v453 =>
        (jrecv h a1 8).bind fun u475 =>
        (f_X11_put a1 v423 v425 (1 : Int32) v453 h).bind fun q455 =>
        (jaI q455.2 a0 (z + (1 : Int32))).bind fun v457 =>
        (jaI q455.2 a0 (z + (2 : Int32))).bind fun v459 =>
        (jaI q455.2 a0 (z + (3 : Int32))).bind fun v461 =>
        if v461 = (0 : Int32) then
          (jaI q455.2 a0 (z + (4 : Int32))).bind fun v463 =>
          (jrecv q455.2 a2 9).bind fun u467 =>
          (f_X12_put a2 v457 v459 (0 : Int32) v463 q455.2).bind fun q465 =>
          if q455.1 = q465.1 then
            some (.inl (z + (6 : Int32)), q465.2)
          else
            some (.inr (.inl (0 : Int32)), q465.2)
        else
          (jaI q455.2 a0 (z + (4 : Int32))).bind fun v469 =>
          (jrecv q455.2 a2 9).bind fun u473 =>
          (f_X12_put a2 v457 v459 (1 : Int32) v469 q455.2).bind fun q471 =>
          if q455.1 = q471.1 then
            some (.inl (z + (6 : Int32)), q471.2)
          else
            some (.inr (.inl (0 : Int32)), q471.2)
    else if v13 &&& (31 : Int32) = (24 : Int32) then
      (jaI h a0 (z + (1 : Int32))).bind fun v477 =>
      (jaI h a0 (z + (2 : Int32))).bind fun v479 =>
      (jaI h a0 (z + (3 : Int32))).bind fun v481 =>
      (f_L_row a1 v477 v479 v481 a3 h).bind fun q483 =>
      (jaI q483.2 a0 (z + (1 : Int32))).bind fun v485 =>
      (jaI q483.2 a0 (z + (2 : Int32))).bind fun v487 =>
      (jaI q483.2 a0 (z + (3 : Int32))).bind fun v489 =>
      (jrecv q483.2 a2 9).bind fun u499 =>
      (f_X12_row a2 v485 v487 v489 q483.2).bind fun q491 =>
      (jrecv q491.2 a2 9).bind fun u497 =>
      (f_X12_thrown a2 q491.2).bind fun q493 =>
      if q493.1 = q483.1 then
        if q483.1 = (0 : Int32) then
          (jaJ q493.2 a3 (0 : Int32)).bind fun v495 =>
          if (lg_cmp v495 q491.1) = (0 : Int32) then
            some (.inl (z + (6 : Int32)), q493.2)
          else
            some (.inr (.inl (0 : Int32)), q493.2)
        else
          some (.inl (z + (6 : Int32)), q493.2)
      else
        some (.inr (.inl (0 : Int32)), q493.2)
    else if v13 &&& (31 : Int32) = (25 : Int32) then
      (jrecv h a1 8).bind fun u507 =>
      (f_X11_swap a1 h).bind fun q501 =>
      (jrecv q501.2 a2 9).bind fun u505 =>
      (f_X12_swap a2 q501.2).bind fun q503 =>
      if q501.1 = q503.1 then
        some (.inl (z + (6 : Int32)), q503.2)
      else
        some (.inr (.inl (0 : Int32)), q503.2)
    else if v13 &&& (31 : Int32) = (26 : Int32) then
      (jaI h a0 (z + (1 : Int32))).bind fun v509 =>
      (jaI h a0 (z + (2 : Int32))).bind fun v511 =>
      if v511 = (0 : Int32) then
        (jrecv h a1 8).bind fun u527 =>
        (f_X11_image a1 v509 (0 : Int32) h).bind fun q513 =>
        (jaI q513.2 a0 (z + (1 : Int32))).bind fun v515 =>
        (jaI q513.2 a0 (z + (2 : Int32))).bind fun v517 =>
        if v517 = (0 : Int32) then
          (jrecv q513.2 a2 9).bind fun u521 =>
          (f_X12_image a2 v515 (0 : Int32) q513.2).bind fun q519 =>
          if q513.1 = q519.1 then
            some (.inl (z + (6 : Int32)), q519.2)
          else
            some (.inr (.inl (0 : Int32)), q519.2)
        else
          (jrecv q513.2 a2 9).bind fun u525 =>
          (f_X12_image a2 v515 (1 : Int32) q513.2).bind fun q523 =>
          if q513.1 = q523.1 then
            some (.inl (z + (6 : Int32)), q523.2)
          else
            some (.inr (.inl (0 : Int32)), q523.2)
      else
        (jrecv h a1 8).bind fun u543 =>
        (f_X11_image a1 v509 (1 : Int32) h).bind fun q529 =>
        (jaI q529.2 a0 (z + (1 : Int32))).bind fun v531 =>
        (jaI q529.2 a0 (z + (2 : Int32))).bind fun v533 =>
        if v533 = (0 : Int32) then
          (jrecv q529.2 a2 9).bind fun u537 =>
          (f_X12_image a2 v531 (0 : Int32) q529.2).bind fun q535 =>
          if q529.1 = q535.1 then
            some (.inl (z + (6 : Int32)), q535.2)
          else
            some (.inr (.inl (0 : Int32)), q535.2)
        else
          (jrecv q529.2 a2 9).bind fun u541 =>
          (f_X12_image a2 v531 (1 : Int32) q529.2).bind fun q539 =>
          if q529.1 = q539.1 then
            some (.inl (z + (6 : Int32)), q539.2)
          else
            some (.inr (.inl (0 : Int32)), q539.2)
    else 
      some (.inl (z + (6 : Int32)), h)

def f_L_law (a0 : Nat) (h : JH) : Option (Int32 × JH) :=
  (jnO h 8 [.null, .int 0, .int 0, .int 0, .null, .null, .null, .null, .null, .null, .null, .null, .null]).bind fun q1 =>
  (f_X11_init q1.1 q1.2).bind fun q3 =>
  (jnO q3.2 9 [.int 0, .int 0, .null, .null, .null, .null, .null, .int 0, .null, .null, .null, .null, .int 0, .int 0, .int 0, .int 0, .int 0, .int 0, .int 0, .int 0, .null, .null, .int 0, .null, .null, .null, .null, .int 0, .null, .null, .int 0, .null, .null, .int 0, .null, .int 0, .null, .null, .null, .int 0, .null, .null, .int 0, .null, .null, .null, .null, .null, .null, .null, .null]).bind fun q5 =>
  (f_X12_init q5.1 q5.2).bind fun q7 =>
  (jnA q7.2 .long (1 : Int32)).bind fun q9 =>
  (jloop (f_L_law_L23 a0 q1.1 q5.1 q9.1) jF (0 : Int32) q9.2).bind fun q622 =>
  Sum.elim (fun r625 => some (r625, q622.2)) (fun t624 =>
    some ((1 : Int32), q622.2)) q622.1

theorem n_L_law_L23 {a0 : Nat} {a1 : Nat} {a2 : Nat} {a3 : Nat} {z : Int32} {h : JH} {r : Int32 ⊕ (Int32 ⊕ Int32)} {h1 : JH} (hf : f_L_law_L23 a0 a1 a2 a3 z h = some (r, h1)) : j_le h h1 := by
  unfold f_L_law_L23 at hf
  obtain ⟨v11, e12, hf⟩ := j_bind hf
  rcases j_ite hf with hf | hf
  ·
    obtain ⟨rfl, rfl⟩ := j_inj2 hf
    exact j_le_refl _
  ·
    obtain ⟨v13, e14, hf⟩ := j_bind hf
    rcases j_ite hf with hf | hf
    ·
      obtain ⟨v15, e16, hf⟩ := j_bind hf
      obtain ⟨v17, e18, hf⟩ := j_bind hf
      obtain ⟨v19, e20, hf⟩ := j_bind hf
      obtain ⟨v21, e22, hf⟩ := j_bind hf
      obtain ⟨v23, e24, hf⟩ := j_bind hf
      obtain ⟨u41, e42, hf⟩ := j_bind hf
      obtain ⟨q25, e26, hf⟩ := j_bind hf
      refine j_le_trans (j_le_of ((q_X11_feed e26))) ?_
      obtain ⟨v27, e28, hf⟩ := j_bind hf
      obtain ⟨v29, e30, hf⟩ := j_bind hf
      obtain ⟨v31, e32, hf⟩ := j_bind hf
      obtain ⟨v33, e34, hf⟩ := j_bind hf
      obtain ⟨v35, e36, hf⟩ := j_bind hf
      obtain ⟨u39, e40, hf⟩ := j_bind hf
      obtain ⟨q37, e38, hf⟩ := j_bind hf
      refine j_le_trans (j_le_of ((q_X12_feed e38))) ?_
      rcases j_ite hf with hf | hf
      ·
        obtain ⟨rfl, rfl⟩ := j_inj2 hf
        exact j_le_refl _
      ·
        obtain ⟨rfl, rfl⟩ := j_inj2 hf
        exact j_le_refl _
    rcases j_ite hf with hf | hf
    ·
      obtain ⟨v43, e44, hf⟩ := j_bind hf
      obtain ⟨u53, e54, hf⟩ := j_bind hf
      obtain ⟨q45, e46, hf⟩ := j_bind hf
      refine j_le_trans (j_le_of ((q_X11_book e46))) ?_
      obtain ⟨v47, e48, hf⟩ := j_bind hf
      obtain ⟨u51, e52, hf⟩ := j_bind hf
      obtain ⟨q49, e50, hf⟩ := j_bind hf
      refine j_le_trans (j_le_of ((q_X12_book e50))) ?_
      rcases j_ite hf with hf | hf
      ·
        obtain ⟨rfl, rfl⟩ := j_inj2 hf
        exact j_le_refl _
      ·
        obtain ⟨rfl, rfl⟩ := j_inj2 hf
        exact j_le_refl _
    rcases j_ite hf with hf | hf
    ·
      obtain ⟨v55, e56, hf⟩ := j_bind hf
      obtain ⟨u65, e66, hf⟩ := j_bind hf
      obtain ⟨q57, e58, hf⟩ := j_bind hf
      refine j_le_trans (j_le_of ((q_X11_count e58))) ?_
      obtain ⟨v59, e60, hf⟩ := j_bind hf
      obtain ⟨u63, e64, hf⟩ := j_bind hf
      obtain ⟨q61, e62, hf⟩ := j_bind hf
      refine j_le_trans (j_le_of ((q_X12_count e62))) ?_
      rcases j_ite hf with hf | hf
      ·
        obtain ⟨rfl, rfl⟩ := j_inj2 hf
        exact j_le_refl _
      ·
        obtain ⟨rfl, rfl⟩ := j_inj2 hf
        exact j_le_refl _
    rcases j_ite hf with hf | hf
    ·
      obtain ⟨v67, e68, hf⟩ := j_bind hf
      obtain ⟨v69, e70, hf⟩ := j_bind hf
      obtain ⟨u81, e82, hf⟩ := j_bind hf
      obtain ⟨q71, e72, hf⟩ := j_bind hf
      refine j_le_trans (j_le_of ((q_X11_let e72))) ?_
      obtain ⟨v73, e74, hf⟩ := j_bind hf
      obtain ⟨v75, e76, hf⟩ := j_bind hf
      obtain ⟨u79, e80, hf⟩ := j_bind hf
      obtain ⟨q77, e78, hf⟩ := j_bind hf
      refine j_le_trans (j_le_of ((q_X12_let e78))) ?_
      rcases j_ite hf with hf | hf
      ·
        obtain ⟨rfl, rfl⟩ := j_inj2 hf
        exact j_le_refl _
      ·
        obtain ⟨rfl, rfl⟩ := j_inj2 hf
        exact j_le_refl _
    rcases j_ite hf with hf | hf
    ·
      obtain ⟨v83, e84, hf⟩ := j_bind hf
      obtain ⟨v85, e86, hf⟩ := j_bind hf
      obtain ⟨u97, e98, hf⟩ := j_bind hf
      obtain ⟨q87, e88, hf⟩ := j_bind hf
      refine j_le_trans (n_X11_coefficient e88) ?_
      obtain ⟨v89, e90, hf⟩ := j_bind hf
      obtain ⟨v91, e92, hf⟩ := j_bind hf
      obtain ⟨u95, e96, hf⟩ := j_bind hf
      obtain ⟨q93, e94, hf⟩ := j_bind hf
      refine j_le_trans (j_le_of ((q_X12_coefficient e94))) ?_
      rcases j_ite hf with hf | hf
      ·
        obtain ⟨rfl, rfl⟩ := j_inj2 hf
        exact j_le_refl _
      ·
        obtain ⟨rfl, rfl⟩ := j_inj2 hf
        exact j_le_refl _
    rcases j_ite hf with hf | hf
    ·
      obtain ⟨v99, e100, hf⟩ := j_bind hf
      obtain ⟨u109, e110, hf⟩ := j_bind hf
      obtain ⟨q101, e102, hf⟩ := j_bind hf
      refine j_le_trans (j_le_of ((q_X11_weight e102))) ?_
      obtain ⟨v103, e104, hf⟩ := j_bind hf
      obtain ⟨u107, e108, hf⟩ := j_bind hf
      obtain ⟨q105, e106, hf⟩ := j_bind hf
      refine j_le_trans (j_le_of ((q_X12_weight e106))) ?_
      rcases j_ite hf with hf | hf
      ·
        obtain ⟨rfl, rfl⟩ := j_inj2 hf
        exact j_le_refl _
      ·
        obtain ⟨rfl, rfl⟩ := j_inj2 hf
        exact j_le_refl _
    rcases j_ite hf with hf | hf
    ·
      obtain ⟨v111, e112, hf⟩ := j_bind hf
      obtain ⟨v113, e114, hf⟩ := j_bind hf
      rcases j_ite hf with hf | hf
      ·
        obtain ⟨u129, e130, hf⟩ := j_bind hf
        obtain ⟨q115, e116, hf⟩ := j_bind hf
        refine j_le_trans (j_le_of ((q_X11_makes e116))) ?_
        obtain ⟨v117, e118, hf⟩ := j_bind hf
        obtain ⟨v119, e120, hf⟩ := j_bind hf
        rcases j_ite hf with hf | hf
        ·
          obtain ⟨u123, e124, hf⟩ := j_bind hf
          obtain ⟨q121, e122, hf⟩ := j_bind hf
          refine j_le_trans (j_le_of ((q_X12_makes e122))) ?_
          rcases j_ite hf with hf | hf
          ·
            obtain ⟨rfl, rfl⟩ := j_inj2 hf
            exact j_le_refl _
          ·
            obtain ⟨rfl, rfl⟩ := j_inj2 hf
            exact j_le_refl _
        ·
          obtain ⟨u127, e128, hf⟩ := j_bind hf
          obtain ⟨q125, e126, hf⟩ := j_bind hf
          refine j_le_trans (j_le_of ((q_X12_makes e126))) ?_
          rcases j_ite hf with hf | hf
          ·
            obtain ⟨rfl, rfl⟩ := j_inj2 hf
            exact j_le_refl _
          ·
            obtain ⟨rfl, rfl⟩ := j_inj2 hf
            exact j_le_refl _
      ·
        obtain ⟨u145, e146, hf⟩ := j_bind hf
        obtain ⟨q131, e132, hf⟩ := j_bind hf
        refine j_le_trans (j_le_of ((q_X11_makes e132))) ?_
        obtain ⟨v133, e134, hf⟩ := j_bind hf
        obtain ⟨v135, e136, hf⟩ := j_bind hf
        rcases j_ite hf with hf | hf
        ·
          obtain ⟨u139, e140, hf⟩ := j_bind hf
          obtain ⟨q137, e138, hf⟩ := j_bind hf
          refine j_le_trans (j_le_of ((q_X12_makes e138))) ?_
          rcases j_ite hf with hf | hf
          ·
            obtain ⟨rfl, rfl⟩ := j_inj2 hf
            exact j_le_refl _
          ·
            obtain ⟨rfl, rfl⟩ := j_inj2 hf
            exact j_le_refl _
        ·
          obtain ⟨u143, e144, hf⟩ := j_bind hf
          obtain ⟨q141, e142, hf⟩ := j_bind hf
          refine j_le_trans (j_le_of ((q_X12_makes e142))) ?_
          rcases j_ite hf with hf | hf
          ·
            obtain ⟨rfl, rfl⟩ := j_inj2 hf
            exact j_le_refl _
          ·
            obtain ⟨rfl, rfl⟩ := j_inj2 hf
            exact j_le_refl _
    rcases j_ite hf with hf | hf
    ·
      obtain ⟨v147, e148, hf⟩ := j_bind hf
      obtain ⟨q149, e150, hf⟩ := j_bind hf
      refine j_le_trans (n_L_whole e150) ?_
      obtain ⟨v151, e152, hf⟩ := j_bind hf
      obtain ⟨u161, e162, hf⟩ := j_bind hf
      obtain ⟨q153, e154, hf⟩ := j_bind hf
      refine j_le_trans (j_le_of ((q_X12_whole e154))) ?_
      obtain ⟨u159, e160, hf⟩ := j_bind hf
      obtain ⟨q155, e156, hf⟩ := j_bind hf
      refine j_le_trans (j_le_of ((q_X12_thrown e156))) ?_
      rcases j_ite hf with hf | hf
      ·
        rcases j_ite hf with hf | hf
        ·
          obtain ⟨v157, e158, hf⟩ := j_bind hf
          rcases j_ite hf with hf | hf
          ·
            obtain ⟨rfl, rfl⟩ := j_inj2 hf
            exact j_le_refl _
          ·
            obtain ⟨rfl, rfl⟩ := j_inj2 hf
            exact j_le_refl _
        ·
          obtain ⟨rfl, rfl⟩ := j_inj2 hf
          exact j_le_refl _
      ·
        obtain ⟨rfl, rfl⟩ := j_inj2 hf
        exact j_le_refl _
    rcases j_ite hf with hf | hf
    ·
      obtain ⟨v163, e164, hf⟩ := j_bind hf
      obtain ⟨u173, e174, hf⟩ := j_bind hf
      obtain ⟨q165, e166, hf⟩ := j_bind hf
      refine j_le_trans (j_le_of ((q_X11_small e166))) ?_
      obtain ⟨v167, e168, hf⟩ := j_bind hf
      obtain ⟨u171, e172, hf⟩ := j_bind hf
      obtain ⟨q169, e170, hf⟩ := j_bind hf
      refine j_le_trans (j_le_of ((q_X12_small e170))) ?_
      rcases j_ite hf with hf | hf
      ·
        obtain ⟨rfl, rfl⟩ := j_inj2 hf
        exact j_le_refl _
      ·
        obtain ⟨rfl, rfl⟩ := j_inj2 hf
        exact j_le_refl _
    rcases j_ite hf with hf | hf
    ·
      obtain ⟨v175, e176, hf⟩ := j_bind hf
      obtain ⟨v177, e178, hf⟩ := j_bind hf
      obtain ⟨u189, e190, hf⟩ := j_bind hf
      obtain ⟨q179, e180, hf⟩ := j_bind hf
      refine j_le_trans (j_le_of ((q_X11_trace e180))) ?_
      obtain ⟨v181, e182, hf⟩ := j_bind hf
      obtain ⟨v183, e184, hf⟩ := j_bind hf
      obtain ⟨u187, e188, hf⟩ := j_bind hf
      obtain ⟨q185, e186, hf⟩ := j_bind hf
      refine j_le_trans (j_le_of ((q_X12_trace e186))) ?_
      rcases j_ite hf with hf | hf
      ·
        obtain ⟨rfl, rfl⟩ := j_inj2 hf
        exact j_le_refl _
      ·
        obtain ⟨rfl, rfl⟩ := j_inj2 hf
        exact j_le_refl _
    rcases j_ite hf with hf | hf
    ·
      obtain ⟨v191, e192, hf⟩ := j_bind hf
      obtain ⟨v193, e194, hf⟩ := j_bind hf
      obtain ⟨u205, e206, hf⟩ := j_bind hf
      obtain ⟨q195, e196, hf⟩ := j_bind hf
      refine j_le_trans (j_le_of ((q_X11_traceLeft e196))) ?_
      obtain ⟨v197, e198, hf⟩ := j_bind hf
      obtain ⟨v199, e200, hf⟩ := j_bind hf
      obtain ⟨u203, e204, hf⟩ := j_bind hf
      obtain ⟨q201, e202, hf⟩ := j_bind hf
      refine j_le_trans (j_le_of ((q_X12_traceLeft e202))) ?_
      rcases j_ite hf with hf | hf
      ·
        obtain ⟨rfl, rfl⟩ := j_inj2 hf
        exact j_le_refl _
      ·
        obtain ⟨rfl, rfl⟩ := j_inj2 hf
        exact j_le_refl _
    rcases j_ite hf with hf | hf
    ·
      obtain ⟨v207, e208, hf⟩ := j_bind hf
      obtain ⟨v209, e210, hf⟩ := j_bind hf
      obtain ⟨u221, e222, hf⟩ := j_bind hf
      obtain ⟨q211, e212, hf⟩ := j_bind hf
      refine j_le_trans (j_le_of ((q_X11_share e212))) ?_
      obtain ⟨v213, e214, hf⟩ := j_bind hf
      obtain ⟨v215, e216, hf⟩ := j_bind hf
      obtain ⟨u219, e220, hf⟩ := j_bind hf
      obtain ⟨q217, e218, hf⟩ := j_bind hf
      refine j_le_trans (j_le_of ((q_X12_share e218))) ?_
      rcases j_ite hf with hf | hf
      ·
        obtain ⟨rfl, rfl⟩ := j_inj2 hf
        exact j_le_refl _
      ·
        obtain ⟨rfl, rfl⟩ := j_inj2 hf
        exact j_le_refl _
    rcases j_ite hf with hf | hf
    ·
      obtain ⟨v223, e224, hf⟩ := j_bind hf
      obtain ⟨v225, e226, hf⟩ := j_bind hf
      obtain ⟨u237, e238, hf⟩ := j_bind hf
      obtain ⟨q227, e228, hf⟩ := j_bind hf
      refine j_le_trans (j_le_of ((q_X11_take e228))) ?_
      obtain ⟨v229, e230, hf⟩ := j_bind hf
      obtain ⟨v231, e232, hf⟩ := j_bind hf
      obtain ⟨u235, e236, hf⟩ := j_bind hf
      obtain ⟨q233, e234, hf⟩ := j_bind hf
      refine j_le_trans (j_le_of ((q_X12_take e234))) ?_
      rcases j_ite hf with hf | hf
      ·
        obtain ⟨rfl, rfl⟩ := j_inj2 hf
        exact j_le_refl _
      ·
        obtain ⟨rfl, rfl⟩ := j_inj2 hf
        exact j_le_refl _
    rcases j_ite hf with hf | hf
    ·
      obtain ⟨v239, e240, hf⟩ := j_bind hf
      obtain ⟨v241, e242, hf⟩ := j_bind hf
      obtain ⟨v243, e244, hf⟩ := j_bind hf
      obtain ⟨u257, e258, hf⟩ := j_bind hf
      obtain ⟨q245, e246, hf⟩ := j_bind hf
      refine j_le_trans (j_le_of ((q_X11_plus e246))) ?_
      obtain ⟨v247, e248, hf⟩ := j_bind hf
      obtain ⟨v249, e250, hf⟩ := j_bind hf
      obtain ⟨v251, e252, hf⟩ := j_bind hf
      obtain ⟨u255, e256, hf⟩ := j_bind hf
      obtain ⟨q253, e254, hf⟩ := j_bind hf
      refine j_le_trans (j_le_of ((q_X12_plus_ e254))) ?_
      rcases j_ite hf with hf | hf
      ·
        obtain ⟨rfl, rfl⟩ := j_inj2 hf
        exact j_le_refl _
      ·
        obtain ⟨rfl, rfl⟩ := j_inj2 hf
        exact j_le_refl _
    rcases j_ite hf with hf | hf
    ·
      obtain ⟨v259, e260, hf⟩ := j_bind hf
      obtain ⟨v261, e262, hf⟩ := j_bind hf
      obtain ⟨u273, e274, hf⟩ := j_bind hf
      obtain ⟨q263, e264, hf⟩ := j_bind hf
      refine j_le_trans (j_le_of ((q_X11_times e264))) ?_
      obtain ⟨v265, e266, hf⟩ := j_bind hf
      obtain ⟨v267, e268, hf⟩ := j_bind hf
      obtain ⟨u271, e272, hf⟩ := j_bind hf
      obtain ⟨q269, e270, hf⟩ := j_bind hf
      refine j_le_trans (j_le_of ((q_X12_times_ e270))) ?_
      rcases j_ite hf with hf | hf
      ·
        obtain ⟨rfl, rfl⟩ := j_inj2 hf
        exact j_le_refl _
      ·
        obtain ⟨rfl, rfl⟩ := j_inj2 hf
        exact j_le_refl _
    rcases j_ite hf with hf | hf
    ·
      obtain ⟨v275, e276, hf⟩ := j_bind hf
      obtain ⟨v277, e278, hf⟩ := j_bind hf
      obtain ⟨u289, e290, hf⟩ := j_bind hf
      obtain ⟨q279, e280, hf⟩ := j_bind hf
      refine j_le_trans (n_X11_hecke e280) ?_
      obtain ⟨v281, e282, hf⟩ := j_bind hf
      obtain ⟨v283, e284, hf⟩ := j_bind hf
      obtain ⟨u287, e288, hf⟩ := j_bind hf
      obtain ⟨q285, e286, hf⟩ := j_bind hf
      refine j_le_trans (j_le_of ((q_X12_hecke e286))) ?_
      rcases j_ite hf with hf | hf
      ·
        obtain ⟨rfl, rfl⟩ := j_inj2 hf
        exact j_le_refl _
      ·
        obtain ⟨rfl, rfl⟩ := j_inj2 hf
        exact j_le_refl _
    rcases j_ite hf with hf | hf
    ·
      obtain ⟨v291, e292, hf⟩ := j_bind hf
      obtain ⟨v293, e294, hf⟩ := j_bind hf
      obtain ⟨u305, e306, hf⟩ := j_bind hf
      obtain ⟨q295, e296, hf⟩ := j_bind hf
      refine j_le_trans (n_X11_multiplies e296) ?_
      obtain ⟨v297, e298, hf⟩ := j_bind hf
      obtain ⟨v299, e300, hf⟩ := j_bind hf
      obtain ⟨u303, e304, hf⟩ := j_bind hf
      obtain ⟨q301, e302, hf⟩ := j_bind hf
      refine j_le_trans (j_le_of ((q_X12_multiplies_ e302))) ?_
      rcases j_ite hf with hf | hf
      ·
        obtain ⟨rfl, rfl⟩ := j_inj2 hf
        exact j_le_refl _
      ·
        obtain ⟨rfl, rfl⟩ := j_inj2 hf
        exact j_le_refl _
    rcases j_ite hf with hf | hf
    ·
      obtain ⟨v307, e308, hf⟩ := j_bind hf
      obtain ⟨v309, e310, hf⟩ := j_bind hf
      obtain ⟨v311, e312, hf⟩ := j_bind hf
      obtain ⟨u325, e326, hf⟩ := j_bind hf
      obtain ⟨q313, e314, hf⟩ := j_bind hf
      refine j_le_trans (j_le_of ((q_X11_alike e314))) ?_
      obtain ⟨v315, e316, hf⟩ := j_bind hf
      obtain ⟨v317, e318, hf⟩ := j_bind hf
      obtain ⟨v319, e320, hf⟩ := j_bind hf
      obtain ⟨u323, e324, hf⟩ := j_bind hf
      obtain ⟨q321, e322, hf⟩ := j_bind hf
      refine j_le_trans (j_le_of ((q_X12_alike e322))) ?_
      rcases j_ite hf with hf | hf
      ·
        obtain ⟨rfl, rfl⟩ := j_inj2 hf
        exact j_le_refl _
      ·
        obtain ⟨rfl, rfl⟩ := j_inj2 hf
        exact j_le_refl _
    rcases j_ite hf with hf | hf
    ·
      obtain ⟨v327, e328, hf⟩ := j_bind hf
      obtain ⟨v329, e330, hf⟩ := j_bind hf
      obtain ⟨u341, e342, hf⟩ := j_bind hf
      obtain ⟨q331, e332, hf⟩ := j_bind hf
      refine j_le_trans (j_le_of ((q_X11_parts e332))) ?_
      obtain ⟨v333, e334, hf⟩ := j_bind hf
      obtain ⟨v335, e336, hf⟩ := j_bind hf
      obtain ⟨u339, e340, hf⟩ := j_bind hf
      obtain ⟨q337, e338, hf⟩ := j_bind hf
      refine j_le_trans (j_le_of ((q_X12_parts e338))) ?_
      rcases j_ite hf with hf | hf
      ·
        obtain ⟨rfl, rfl⟩ := j_inj2 hf
        exact j_le_refl _
      ·
        obtain ⟨rfl, rfl⟩ := j_inj2 hf
        exact j_le_refl _
    rcases j_ite hf with hf | hf
    ·
      obtain ⟨v343, e344, hf⟩ := j_bind hf
      obtain ⟨v345, e346, hf⟩ := j_bind hf
      obtain ⟨v347, e348, hf⟩ := j_bind hf
      obtain ⟨v349, e350, hf⟩ := j_bind hf
      obtain ⟨u365, e366, hf⟩ := j_bind hf
      obtain ⟨q351, e352, hf⟩ := j_bind hf
      refine j_le_trans (n_X11_table e352) ?_
      obtain ⟨v353, e354, hf⟩ := j_bind hf
      obtain ⟨v355, e356, hf⟩ := j_bind hf
      obtain ⟨v357, e358, hf⟩ := j_bind hf
      obtain ⟨v359, e360, hf⟩ := j_bind hf
      obtain ⟨u363, e364, hf⟩ := j_bind hf
      obtain ⟨q361, e362, hf⟩ := j_bind hf
      refine j_le_trans (j_le_of ((q_X12_table e362))) ?_
      rcases j_ite hf with hf | hf
      ·
        obtain ⟨rfl, rfl⟩ := j_inj2 hf
        exact j_le_refl _
      ·
        obtain ⟨rfl, rfl⟩ := j_inj2 hf
        exact j_le_refl _
    rcases j_ite hf with hf | hf
    ·
      obtain ⟨v367, e368, hf⟩ := j_bind hf
      obtain ⟨v369, e370, hf⟩ := j_bind hf
      obtain ⟨v371, e372, hf⟩ := j_bind hf
      obtain ⟨u385, e386, hf⟩ := j_bind hf
      obtain ⟨q373, e374, hf⟩ := j_bind hf
      refine j_le_trans (n_X11_polynomial e374) ?_
      obtain ⟨v375, e376, hf⟩ := j_bind hf
      obtain ⟨v377, e378, hf⟩ := j_bind hf
      obtain ⟨v379, e380, hf⟩ := j_bind hf
      obtain ⟨u383, e384, hf⟩ := j_bind hf
      obtain ⟨q381, e382, hf⟩ := j_bind hf
      refine j_le_trans (j_le_of ((q_X12_polynomial e382))) ?_
      rcases j_ite hf with hf | hf
      ·
        obtain ⟨rfl, rfl⟩ := j_inj2 hf
        exact j_le_refl _
      ·
        obtain ⟨rfl, rfl⟩ := j_inj2 hf
        exact j_le_refl _
    rcases j_ite hf with hf | hf
    ·
      obtain ⟨v387, e388, hf⟩ := j_bind hf
      obtain ⟨v389, e390, hf⟩ := j_bind hf
      obtain ⟨u401, e402, hf⟩ := j_bind hf
      obtain ⟨q391, e392, hf⟩ := j_bind hf
      refine j_le_trans (n_X11_root e392) ?_
      obtain ⟨v393, e394, hf⟩ := j_bind hf
      obtain ⟨v395, e396, hf⟩ := j_bind hf
      obtain ⟨u399, e400, hf⟩ := j_bind hf
      obtain ⟨q397, e398, hf⟩ := j_bind hf
      refine j_le_trans (j_le_of ((q_X12_root e398))) ?_
      rcases j_ite hf with hf | hf
      ·
        obtain ⟨rfl, rfl⟩ := j_inj2 hf
        exact j_le_refl _
      ·
        obtain ⟨rfl, rfl⟩ := j_inj2 hf
        exact j_le_refl _
    rcases j_ite hf with hf | hf
    ·
      obtain ⟨v403, e404, hf⟩ := j_bind hf
      obtain ⟨v405, e406, hf⟩ := j_bind hf
      obtain ⟨v407, e408, hf⟩ := j_bind hf
      obtain ⟨u421, e422, hf⟩ := j_bind hf
      obtain ⟨q409, e410, hf⟩ := j_bind hf
      refine j_le_trans (n_X11_own e410) ?_
      obtain ⟨v411, e412, hf⟩ := j_bind hf
      obtain ⟨v413, e414, hf⟩ := j_bind hf
      obtain ⟨v415, e416, hf⟩ := j_bind hf
      obtain ⟨u419, e420, hf⟩ := j_bind hf
      obtain ⟨q417, e418, hf⟩ := j_bind hf
      refine j_le_trans (j_le_of ((q_X12_own e418))) ?_
      rcases j_ite hf with hf | hf
      ·
        obtain ⟨rfl, rfl⟩ := j_inj2 hf
        exact j_le_refl _
      ·
        obtain ⟨rfl, rfl⟩ := j_inj2 hf
        exact j_le_refl _
    rcases j_ite hf with hf | hf
    ·
      obtain ⟨v423, e424, hf⟩ := j_bind hf
      obtain ⟨v425, e426, hf⟩ := j_bind hf
      obtain ⟨v427, e428, hf⟩ := j_bind hf
      rcases j_ite hf with hf | hf
      ·
        obtain ⟨v429, e430, hf⟩ := j_bind hf
        obtain ⟨u451, e452, hf⟩ := j_bind hf
        obtain ⟨q431, e432, hf⟩ := j_bind hf
        refine j_le_trans (n_X11_put e432) ?_
        obtain ⟨v433, e434, hf⟩ := j_bind hf
        obtain ⟨v435, e436, hf⟩ := j_bind hf
        obtain ⟨v437, e438, hf⟩ := j_bind hf
        rcases j_ite hf with hf | hf
        ·
          obtain ⟨v439, e440, hf⟩ := j_bind hf
          obtain ⟨u443, e444, hf⟩ := j_bind hf
          obtain ⟨q441, e442, hf⟩ := j_bind hf
          refine j_le_trans (j_le_of ((q_X12_put e442))) ?_
          rcases j_ite hf with hf | hf
          ·
            obtain ⟨rfl, rfl⟩ := j_inj2 hf
            exact j_le_refl _
          ·
            obtain ⟨rfl, rfl⟩ := j_inj2 hf
            exact j_le_refl _
        ·
          obtain ⟨v445, e446, hf⟩ := j_bind hf
          obtain ⟨u449, e450, hf⟩ := j_bind hf
          obtain ⟨q447, e448, hf⟩ := j_bind hf
          refine j_le_trans (j_le_of ((q_X12_put e448))) ?_
          rcases j_ite hf with hf | hf
          ·
            obtain ⟨rfl, rfl⟩ := j_inj2 hf
            exact j_le_refl _
          ·
            obtain ⟨rfl, rfl⟩ := j_inj2 hf
            exact j_le_refl _
      ·
        obtain ⟨v453, e454, hf⟩ := j_bind hf
        obtain ⟨u475, e476, hf⟩ := j_bind hf
        obtain ⟨q455, e456, hf⟩ := j_bind hf
        refine j_le_trans (n_X11_put e456) ?_
        obtain ⟨v457, e458, hf⟩ := j_bind hf
        obtain ⟨v459, e460, hf⟩ := j_bind hf
        obtain ⟨v461, e462, hf⟩ := j_bind hf
        rcases j_ite hf with hf | hf
        ·
          obtain ⟨v463, e464, hf⟩ := j_bind hf
          obtain ⟨u467, e468, hf⟩ := j_bind hf
          obtain ⟨q465, e466, hf⟩ := j_bind hf
          refine j_le_trans (j_le_of ((q_X12_put e466))) ?_
          rcases j_ite hf with hf | hf
          ·
            obtain ⟨rfl, rfl⟩ := j_inj2 hf
            exact j_le_refl _
          ·
            obtain ⟨rfl, rfl⟩ := j_inj2 hf
            exact j_le_refl _
        ·
          obtain ⟨v469, e470, hf⟩ := j_bind hf
          obtain ⟨u473, e474, hf⟩ := j_bind hf
          obtain ⟨q471, e472, hf⟩ := j_bind hf
          refine j_le_trans (j_le_of ((q_X12_put e472))) ?_
          rcases j_ite hf with hf | hf
          ·
            obtain ⟨rfl, rfl⟩ := j_inj2 hf
            exact j_le_refl _
          ·
            obtain ⟨rfl, rfl⟩ := j_inj2 hf
            exact j_le_refl _
    rcases j_ite hf with hf | hf
    ·
      obtain ⟨v477, e478, hf⟩ := j_bind hf
      obtain ⟨v479, e480, hf⟩ := j_bind hf
      obtain ⟨v481, e482, hf⟩ := j_bind hf
      obtain ⟨q483, e484, hf⟩ := j_bind hf
      refine j_le_trans (n_L_row e484) ?_
      obtain ⟨v485, e486, hf⟩ := j_bind hf
      obtain ⟨v487, e488, hf⟩ := j_bind hf
      obtain ⟨v489, e490, hf⟩ := j_bind hf
      obtain ⟨u499, e500, hf⟩ := j_bind hf
      obtain ⟨q491, e492, hf⟩ := j_bind hf
      refine j_le_trans (j_le_of ((q_X12_row e492))) ?_
      obtain ⟨u497, e498, hf⟩ := j_bind hf
      obtain ⟨q493, e494, hf⟩ := j_bind hf
      refine j_le_trans (j_le_of ((q_X12_thrown e494))) ?_
      rcases j_ite hf with hf | hf
      ·
        rcases j_ite hf with hf | hf
        ·
          obtain ⟨v495, e496, hf⟩ := j_bind hf
          rcases j_ite hf with hf | hf
          ·
            obtain ⟨rfl, rfl⟩ := j_inj2 hf
            exact j_le_refl _
          ·
            obtain ⟨rfl, rfl⟩ := j_inj2 hf
            exact j_le_refl _
        ·
          obtain ⟨rfl, rfl⟩ := j_inj2 hf
          exact j_le_refl _
      ·
        obtain ⟨rfl, rfl⟩ := j_inj2 hf
        exact j_le_refl _
    rcases j_ite hf with hf | hf
    ·
      obtain ⟨u507, e508, hf⟩ := j_bind hf
      obtain ⟨q501, e502, hf⟩ := j_bind hf
      refine j_le_trans (j_le_of ((q_X11_swap e502))) ?_
      obtain ⟨u505, e506, hf⟩ := j_bind hf
      obtain ⟨q503, e504, hf⟩ := j_bind hf
      refine j_le_trans (j_le_of ((q_X12_swap e504))) ?_
      rcases j_ite hf with hf | hf
      ·
        obtain ⟨rfl, rfl⟩ := j_inj2 hf
        exact j_le_refl _
      ·
        obtain ⟨rfl, rfl⟩ := j_inj2 hf
        exact j_le_refl _
    rcases j_ite hf with hf | hf
    ·
      obtain ⟨v509, e510, hf⟩ := j_bind hf
      obtain ⟨v511, e512, hf⟩ := j_bind hf
      rcases j_ite hf with hf | hf
      ·
        obtain ⟨u527, e528, hf⟩ := j_bind hf
        obtain ⟨q513, e514, hf⟩ := j_bind hf
        refine j_le_trans (j_le_of ((q_X11_image e514))) ?_
        obtain ⟨v515, e516, hf⟩ := j_bind hf
        obtain ⟨v517, e518, hf⟩ := j_bind hf
        rcases j_ite hf with hf | hf
        ·
          obtain ⟨u521, e522, hf⟩ := j_bind hf
          obtain ⟨q519, e520, hf⟩ := j_bind hf
          refine j_le_trans (j_le_of ((q_X12_image e520))) ?_
          rcases j_ite hf with hf | hf
          ·
            obtain ⟨rfl, rfl⟩ := j_inj2 hf
            exact j_le_refl _
          ·
            obtain ⟨rfl, rfl⟩ := j_inj2 hf
            exact j_le_refl _
        ·
          obtain ⟨u525, e526, hf⟩ := j_bind hf
          obtain ⟨q523, e524, hf⟩ := j_bind hf
          refine j_le_trans (j_le_of ((q_X12_image e524))) ?_
          rcases j_ite hf with hf | hf
          ·
            obtain ⟨rfl, rfl⟩ := j_inj2 hf
            exact j_le_refl _
          ·
            obtain ⟨rfl, rfl⟩ := j_inj2 hf
            exact j_le_refl _
      ·
        obtain ⟨u543, e544, hf⟩ := j_bind hf
        obtain ⟨q529, e530, hf⟩ := j_bind hf
        refine j_le_trans (j_le_of ((q_X11_image e530))) ?_
        obtain ⟨v531, e532, hf⟩ := j_bind hf
        obtain ⟨v533, e534, hf⟩ := j_bind hf
        rcases j_ite hf with hf | hf
        ·
          obtain ⟨u537, e538, hf⟩ := j_bind hf
          obtain ⟨q535, e536, hf⟩ := j_bind hf
          refine j_le_trans (j_le_of ((q_X12_image e536))) ?_
          rcases j_ite hf with hf | hf
          ·
            obtain ⟨rfl, rfl⟩ := j_inj2 hf
            exact j_le_refl _
          ·
            obtain ⟨rfl, rfl⟩ := j_inj2 hf
            exact j_le_refl _
        ·
          obtain ⟨u541, e542, hf⟩ := j_bind hf
          obtain ⟨q539, e540, hf⟩ := j_bind hf
          refine j_le_trans (j_le_of ((q_X12_image e540))) ?_
          rcases j_ite hf with hf | hf
          ·
            obtain ⟨rfl, rfl⟩ := j_inj2 hf
            exact j_le_refl _
          ·
            obtain ⟨rfl, rfl⟩ := j_inj2 hf
            exact j_le_refl _
    obtain ⟨rfl, rfl⟩ := j_inj2 hf
    exact j_le_refl _
theorem n_L_law {a0 : Nat} {h : JH} {q : Int32 × JH} (hf : f_L_law a0 h = some q) : j_le h q.2 := by
  unfold f_L_law at hf
  obtain ⟨q1, e2, hf⟩ := j_bind hf
  refine j_le_trans (jnO_le e2) ?_
  obtain ⟨q3, e4, hf⟩ := j_bind hf
  refine j_le_trans (n_X11_init e4) ?_
  obtain ⟨q5, e6, hf⟩ := j_bind hf
  refine j_le_trans (jnO_le e6) ?_
  obtain ⟨q7, e8, hf⟩ := j_bind hf
  refine j_le_trans (n_X12_init e8) ?_
  obtain ⟨q9, e10, hf⟩ := j_bind hf
  refine j_le_trans (jnA_le e10) ?_
  obtain ⟨q622, e623, hf⟩ := j_bind hf
  refine j_le_trans ((jloop_le (fun _ _ _ _ q => n_L_law_L23 q) e623)) ?_
  cases y626 : q622.1 with
  | inl r625 =>
    rw [y626] at hf
    have hf := j_eliml hf
    obtain rfl := j_inj hf
    exact j_le_refl _
  | inr t624 =>
    rw [y626] at hf
    have hf := j_elimr hf
    obtain rfl := j_inj hf
    exact j_le_refl _
set_option maxHeartbeats 4000000 in
set_option maxRecDepth 100000 in
theorem s_L_law_L23 {p : Program} {l : Launch} {e : Env} {R : Room} {s : State} {m : MethodId} {args : Array Value} {below : List Frame} {meth : Method} {c : Code} {E : JE} {h0 hF : JH} {rF : Option Value} {d : Nat} (hfl : l.flags = flags0) (C : j_C p s m args meth c R E cL_law 8 RL h0 hF d) (hret : meth.sig.returnType = (some .boolean)) (hdd : 63 ≤ d) (a0 : Nat) (a1 : Nat) (a2 : Nat) (a3 : Nat) (z : Int32) (h : JH) (r : Int32 ⊕ (Int32 ⊕ Int32)) (h1 : JH) (hf : f_L_law_L23 a0 a1 a2 a3 z h = some (r, h1)) (hleF : j_le h1 hF) (hk : Sum.elim (fun z => Xw p l e R s m args below meth c E 8 h0 rF hF 23 [(0, .ref a0), (1, .ref a1), (2, .ref a2), (3, .ref a3), (4, .int z)] [] h1) (fun t => Sum.elim (fun rr => some (.int rr) = rF ∧ h1 = hF) (fun t => Xw p l e R s m args below meth c E 8 h0 rF hF 1339 [(0, .ref a0), (1, .ref a1), (2, .ref a2), (3, .ref a3), (4, .int t)] [] h1) t) r) : Xw p l e R s m args below meth c E 8 h0 rF hF 23 [(0, .ref a0), (1, .ref a1), (2, .ref a2), (3, .ref a3), (4, .int z)] [] h := by
  unfold f_L_law_L23 at hf
  refine x_iload (v := z) C dL_law_23 rfl ?_
  refine x_aload_n (v := a0) C dL_law_25 rfl ?_
  obtain ⟨v11, e12, hf⟩ := j_bind hf
  refine x_alen C dL_law_26 e12 ?_
  refine x_bipush C dL_law_27 kb_6 ?_
  refine x_isub C dL_law_29 ?_
  refine x_icmp_gt (tgt := 1339) C dL_law_30 (by decide) (fun c545 => ?_) (fun c545 => ?_)
  · have hf := j_ifp hf c545
    obtain ⟨rfl, rfl⟩ := j_inj2 hf
    exact x_locr hk rfl
  · have hf := j_ifn hf c545
    refine x_aload_n (v := a0) C dL_law_33 rfl ?_
    refine x_iload (v := z) C dL_law_34 rfl ?_
    obtain ⟨v13, e14, hf⟩ := j_bind hf
    refine x_iald C dL_law_36 e14 ?_
    refine x_bipush C dL_law_37 kb_31 ?_
    refine x_iand C dL_law_39 ?_
    by_cases c546 : v13 &&& (31 : Int32) = (0 : Int32)
    · have hf := j_ifp hf c546
      refine x_table C dL_law_40 164 (by rw [c546]; decide) (124) (by rw [c546]; rfl) (by decide) ?_
      refine x_aload_n (v := a1) C dL_law_164 rfl ?_
      refine x_aload_n (v := a0) C dL_law_165 rfl ?_
      refine x_iload (v := z) C dL_law_166 rfl ?_
      refine x_iconst C dL_law_168 ki_1 ?_
      refine x_iadd C dL_law_169 ?_
      obtain ⟨v15, e16, hf⟩ := j_bind hf
      refine x_iald C dL_law_170 e16 ?_
      refine x_aload_n (v := a0) C dL_law_171 rfl ?_
      refine x_iload (v := z) C dL_law_172 rfl ?_
      refine x_iconst C dL_law_174 ki_2 ?_
      refine x_iadd C dL_law_175 ?_
      obtain ⟨v17, e18, hf⟩ := j_bind hf
      refine x_iald C dL_law_176 e18 ?_
      refine x_aload_n (v := a0) C dL_law_177 rfl ?_
      refine x_iload (v := z) C dL_law_178 rfl ?_
      refine x_iconst C dL_law_180 ki_3 ?_
      refine x_iadd C dL_law_181 ?_
      obtain ⟨v19, e20, hf⟩ := j_bind hf
      refine x_iald C dL_law_182 e20 ?_
      refine x_aload_n (v := a0) C dL_law_183 rfl ?_
      refine x_iload (v := z) C dL_law_184 rfl ?_
      refine x_iconst C dL_law_186 ki_4 ?_
      refine x_iadd C dL_law_187 ?_
      obtain ⟨v21, e22, hf⟩ := j_bind hf
      refine x_iald C dL_law_188 e22 ?_
      refine x_aload_n (v := a0) C dL_law_189 rfl ?_
      refine x_iload (v := z) C dL_law_190 rfl ?_
      refine x_iconst C dL_law_192 ki_5 ?_
      refine x_iadd C dL_law_193 ?_
      obtain ⟨v23, e24, hf⟩ := j_bind hf
      refine x_iald C dL_law_194 e24 ?_
      obtain ⟨u41, e42, hf⟩ := j_bind hf
      obtain ⟨q25, e26, hf⟩ := j_bind hf
      refine x_callV (As := [.int v15, .int v17, .int v19, .int v21, .int v23]) (rest := []) C dL_law_195 (m_X11_feed (l := l) (E := E) (d := d - 1) (by omega) e26) km_X11_feed lk_L_23 kv_X11_feed (ci := 8) rfl e42 rfl (by omega) (Nat.le_of_ble_eq_true rfl) (j_le_of (q_X11_feed e26)) (Or.inr (q_X11_feed e26)) ?_
      refine x_aload_n (v := a2) C dL_law_198 rfl ?_
      refine x_aload_n (v := a0) C dL_law_199 rfl ?_
      refine x_iload (v := z) C dL_law_200 rfl ?_
      refine x_iconst C dL_law_202 ki_1 ?_
      refine x_iadd C dL_law_203 ?_
      obtain ⟨v27, e28, hf⟩ := j_bind hf
      refine x_iald C dL_law_204 e28 ?_
      refine x_aload_n (v := a0) C dL_law_205 rfl ?_
      refine x_iload (v := z) C dL_law_206 rfl ?_
      refine x_iconst C dL_law_208 ki_2 ?_
      refine x_iadd C dL_law_209 ?_
      obtain ⟨v29, e30, hf⟩ := j_bind hf
      refine x_iald C dL_law_210 e30 ?_
      refine x_aload_n (v := a0) C dL_law_211 rfl ?_
      refine x_iload (v := z) C dL_law_212 rfl ?_
      refine x_iconst C dL_law_214 ki_3 ?_
      refine x_iadd C dL_law_215 ?_
      obtain ⟨v31, e32, hf⟩ := j_bind hf
      refine x_iald C dL_law_216 e32 ?_
      refine x_aload_n (v := a0) C dL_law_217 rfl ?_
      refine x_iload (v := z) C dL_law_218 rfl ?_
      refine x_iconst C dL_law_220 ki_4 ?_
      refine x_iadd C dL_law_221 ?_
      obtain ⟨v33, e34, hf⟩ := j_bind hf
      refine x_iald C dL_law_222 e34 ?_
      refine x_aload_n (v := a0) C dL_law_223 rfl ?_
      refine x_iload (v := z) C dL_law_224 rfl ?_
      refine x_iconst C dL_law_226 ki_5 ?_
      refine x_iadd C dL_law_227 ?_
      obtain ⟨v35, e36, hf⟩ := j_bind hf
      refine x_iald C dL_law_228 e36 ?_
      obtain ⟨u39, e40, hf⟩ := j_bind hf
      obtain ⟨q37, e38, hf⟩ := j_bind hf
      refine x_callV (As := [.int v27, .int v29, .int v31, .int v33, .int v35]) (rest := [.int q25.1]) C dL_law_229 (m_X12_feed (l := l) (E := E) (d := d - 1) (by omega) e38) km_X12_feed lk_L_27 kv_X12_feed (ci := 9) rfl e40 rfl (by omega) (Nat.le_of_ble_eq_true rfl) (j_le_of (q_X12_feed e38)) (Or.inr (q_X12_feed e38)) ?_
      refine x_icmp_eq (tgt := 1333) C dL_law_232 (by decide) (fun c547 => ?_) (fun c547 => ?_)
      · have hf := j_ifp hf c547
        refine x_iinc (v := z) C dL_law_1333 rfl ki_6 (by decide) ?_
        refine x_goto (tgt := 23) C dL_law_1336 (by decide) ?_
        obtain ⟨rfl, rfl⟩ := j_inj2 hf
        exact x_locr hk rfl
      · have hf := j_ifn hf c547
        refine x_iconst C dL_law_235 ki_0 ?_
        obtain ⟨rfl, rfl⟩ := j_inj2 hf
        obtain ⟨rfl, rfl⟩ := hk
        exact x_zret C hret (Or.inl rfl) dL_law_236
    have hf := j_ifn hf c546
    by_cases c548 : v13 &&& (31 : Int32) = (1 : Int32)
    · have hf := j_ifp hf c548
      refine x_table C dL_law_40 237 (by rw [c548]; decide) (197) (by rw [c548]; rfl) (by decide) ?_
      refine x_aload_n (v := a1) C dL_law_237 rfl ?_
      refine x_aload_n (v := a0) C dL_law_238 rfl ?_
      refine x_iload (v := z) C dL_law_239 rfl ?_
      refine x_iconst C dL_law_241 ki_1 ?_
      refine x_iadd C dL_law_242 ?_
      obtain ⟨v43, e44, hf⟩ := j_bind hf
      refine x_iald C dL_law_243 e44 ?_
      obtain ⟨u53, e54, hf⟩ := j_bind hf
      obtain ⟨q45, e46, hf⟩ := j_bind hf
      refine x_callV (As := [.int v43]) (rest := []) C dL_law_244 (m_X11_book (l := l) (E := E) (d := d - 1) (by omega) e46) km_X11_book lk_L_28 kv_X11_book (ci := 8) rfl e54 rfl (by omega) (Nat.le_of_ble_eq_true rfl) (j_le_of (q_X11_book e46)) (Or.inr (q_X11_book e46)) ?_
      refine x_aload_n (v := a2) C dL_law_247 rfl ?_
      refine x_aload_n (v := a0) C dL_law_248 rfl ?_
      refine x_iload (v := z) C dL_law_249 rfl ?_
      refine x_iconst C dL_law_251 ki_1 ?_
      refine x_iadd C dL_law_252 ?_
      obtain ⟨v47, e48, hf⟩ := j_bind hf
      refine x_iald C dL_law_253 e48 ?_
      obtain ⟨u51, e52, hf⟩ := j_bind hf
      obtain ⟨q49, e50, hf⟩ := j_bind hf
      refine x_callV (As := [.int v47]) (rest := [.int q45.1]) C dL_law_254 (m_X12_book (l := l) (E := E) (d := d - 1) (by omega) e50) km_X12_book lk_L_31 kv_X12_book (ci := 9) rfl e52 rfl (by omega) (Nat.le_of_ble_eq_true rfl) (j_le_of (q_X12_book e50)) (Or.inr (q_X12_book e50)) ?_
      refine x_icmp_eq (tgt := 1333) C dL_law_257 (by decide) (fun c549 => ?_) (fun c549 => ?_)
      · have hf := j_ifp hf c549
        refine x_iinc (v := z) C dL_law_1333 rfl ki_6 (by decide) ?_
        refine x_goto (tgt := 23) C dL_law_1336 (by decide) ?_
        obtain ⟨rfl, rfl⟩ := j_inj2 hf
        exact x_locr hk rfl
      · have hf := j_ifn hf c549
        refine x_iconst C dL_law_260 ki_0 ?_
        obtain ⟨rfl, rfl⟩ := j_inj2 hf
        obtain ⟨rfl, rfl⟩ := hk
        exact x_zret C hret (Or.inl rfl) dL_law_261
    have hf := j_ifn hf c548
    by_cases c550 : v13 &&& (31 : Int32) = (2 : Int32)
    · have hf := j_ifp hf c550
      refine x_table C dL_law_40 262 (by rw [c550]; decide) (222) (by rw [c550]; rfl) (by decide) ?_
      refine x_aload_n (v := a1) C dL_law_262 rfl ?_
      refine x_aload_n (v := a0) C dL_law_263 rfl ?_
      refine x_iload (v := z) C dL_law_264 rfl ?_
      refine x_iconst C dL_law_266 ki_1 ?_
      refine x_iadd C dL_law_267 ?_
      obtain ⟨v55, e56, hf⟩ := j_bind hf
      refine x_iald C dL_law_268 e56 ?_
      obtain ⟨u65, e66, hf⟩ := j_bind hf
      obtain ⟨q57, e58, hf⟩ := j_bind hf
      refine x_callV (As := [.int v55]) (rest := []) C dL_law_269 (m_X11_count (l := l) (E := E) (d := d - 1) (by omega) e58) km_X11_count lk_L_32 kv_X11_count (ci := 8) rfl e66 rfl (by omega) (Nat.le_of_ble_eq_true rfl) (j_le_of (q_X11_count e58)) (Or.inr (q_X11_count e58)) ?_
      refine x_aload_n (v := a2) C dL_law_272 rfl ?_
      refine x_aload_n (v := a0) C dL_law_273 rfl ?_
      refine x_iload (v := z) C dL_law_274 rfl ?_
      refine x_iconst C dL_law_276 ki_1 ?_
      refine x_iadd C dL_law_277 ?_
      obtain ⟨v59, e60, hf⟩ := j_bind hf
      refine x_iald C dL_law_278 e60 ?_
      obtain ⟨u63, e64, hf⟩ := j_bind hf
      obtain ⟨q61, e62, hf⟩ := j_bind hf
      refine x_callV (As := [.int v59]) (rest := [.int q57.1]) C dL_law_279 (m_X12_count (l := l) (E := E) (d := d - 1) (by omega) e62) km_X12_count lk_L_35 kv_X12_count (ci := 9) rfl e64 rfl (by omega) (Nat.le_of_ble_eq_true rfl) (j_le_of (q_X12_count e62)) (Or.inr (q_X12_count e62)) ?_
      refine x_icmp_eq (tgt := 1333) C dL_law_282 (by decide) (fun c551 => ?_) (fun c551 => ?_)
      · have hf := j_ifp hf c551
        refine x_iinc (v := z) C dL_law_1333 rfl ki_6 (by decide) ?_
        refine x_goto (tgt := 23) C dL_law_1336 (by decide) ?_
        obtain ⟨rfl, rfl⟩ := j_inj2 hf
        exact x_locr hk rfl
      · have hf := j_ifn hf c551
        refine x_iconst C dL_law_285 ki_0 ?_
        obtain ⟨rfl, rfl⟩ := j_inj2 hf
        obtain ⟨rfl, rfl⟩ := hk
        exact x_zret C hret (Or.inl rfl) dL_law_286
    have hf := j_ifn hf c550
    by_cases c552 : v13 &&& (31 : Int32) = (3 : Int32)
    · have hf := j_ifp hf c552
      refine x_table C dL_law_40 287 (by rw [c552]; decide) (247) (by rw [c552]; rfl) (by decide) ?_
      refine x_aload_n (v := a1) C dL_law_287 rfl ?_
      refine x_aload_n (v := a0) C dL_law_288 rfl ?_
      refine x_iload (v := z) C dL_law_289 rfl ?_
      refine x_iconst C dL_law_291 ki_1 ?_
      refine x_iadd C dL_law_292 ?_
      obtain ⟨v67, e68, hf⟩ := j_bind hf
      refine x_iald C dL_law_293 e68 ?_
      refine x_aload_n (v := a0) C dL_law_294 rfl ?_
      refine x_iload (v := z) C dL_law_295 rfl ?_
      refine x_iconst C dL_law_297 ki_2 ?_
      refine x_iadd C dL_law_298 ?_
      obtain ⟨v69, e70, hf⟩ := j_bind hf
      refine x_iald C dL_law_299 e70 ?_
      obtain ⟨u81, e82, hf⟩ := j_bind hf
      obtain ⟨q71, e72, hf⟩ := j_bind hf
      refine x_callV (As := [.int v67, .int v69]) (rest := []) C dL_law_300 (m_X11_let (l := l) (E := E) (d := d - 1) (by omega) e72) km_X11_let lk_L_36 kv_X11_let (ci := 8) rfl e82 rfl (by omega) (Nat.le_of_ble_eq_true rfl) (j_le_of (q_X11_let e72)) (Or.inr (q_X11_let e72)) ?_
      refine x_aload_n (v := a2) C dL_law_303 rfl ?_
      refine x_aload_n (v := a0) C dL_law_304 rfl ?_
      refine x_iload (v := z) C dL_law_305 rfl ?_
      refine x_iconst C dL_law_307 ki_1 ?_
      refine x_iadd C dL_law_308 ?_
      obtain ⟨v73, e74, hf⟩ := j_bind hf
      refine x_iald C dL_law_309 e74 ?_
      refine x_aload_n (v := a0) C dL_law_310 rfl ?_
      refine x_iload (v := z) C dL_law_311 rfl ?_
      refine x_iconst C dL_law_313 ki_2 ?_
      refine x_iadd C dL_law_314 ?_
      obtain ⟨v75, e76, hf⟩ := j_bind hf
      refine x_iald C dL_law_315 e76 ?_
      obtain ⟨u79, e80, hf⟩ := j_bind hf
      obtain ⟨q77, e78, hf⟩ := j_bind hf
      refine x_callV (As := [.int v73, .int v75]) (rest := [.int q71.1]) C dL_law_316 (m_X12_let (l := l) (E := E) (d := d - 1) (by omega) e78) km_X12_let lk_L_40 kv_X12_let (ci := 9) rfl e80 rfl (by omega) (Nat.le_of_ble_eq_true rfl) (j_le_of (q_X12_let e78)) (Or.inr (q_X12_let e78)) ?_
      refine x_icmp_eq (tgt := 1333) C dL_law_319 (by decide) (fun c553 => ?_) (fun c553 => ?_)
      · have hf := j_ifp hf c553
        refine x_iinc (v := z) C dL_law_1333 rfl ki_6 (by decide) ?_
        refine x_goto (tgt := 23) C dL_law_1336 (by decide) ?_
        obtain ⟨rfl, rfl⟩ := j_inj2 hf
        exact x_locr hk rfl
      · have hf := j_ifn hf c553
        refine x_iconst C dL_law_322 ki_0 ?_
        obtain ⟨rfl, rfl⟩ := j_inj2 hf
        obtain ⟨rfl, rfl⟩ := hk
        exact x_zret C hret (Or.inl rfl) dL_law_323
    have hf := j_ifn hf c552
    by_cases c554 : v13 &&& (31 : Int32) = (4 : Int32)
    · have hf := j_ifp hf c554
      refine x_table C dL_law_40 324 (by rw [c554]; decide) (284) (by rw [c554]; rfl) (by decide) ?_
      refine x_aload_n (v := a1) C dL_law_324 rfl ?_
      refine x_aload_n (v := a0) C dL_law_325 rfl ?_
      refine x_iload (v := z) C dL_law_326 rfl ?_
      refine x_iconst C dL_law_328 ki_1 ?_
      refine x_iadd C dL_law_329 ?_
      obtain ⟨v83, e84, hf⟩ := j_bind hf
      refine x_iald C dL_law_330 e84 ?_
      refine x_aload_n (v := a0) C dL_law_331 rfl ?_
      refine x_iload (v := z) C dL_law_332 rfl ?_
      refine x_iconst C dL_law_334 ki_2 ?_
      refine x_iadd C dL_law_335 ?_
      obtain ⟨v85, e86, hf⟩ := j_bind hf
      refine x_iald C dL_law_336 e86 ?_
      obtain ⟨u97, e98, hf⟩ := j_bind hf
      obtain ⟨q87, e88, hf⟩ := j_bind hf
      have hle : j_le q87.2 hF := by
        obtain ⟨v89, e90, hf⟩ := j_bind hf
        obtain ⟨v91, e92, hf⟩ := j_bind hf
        obtain ⟨u95, e96, hf⟩ := j_bind hf
        obtain ⟨q93, e94, hf⟩ := j_bind hf
        refine j_le_trans (j_le_of ((q_X12_coefficient e94))) ?_
        rcases j_ite hf with hf | hf
        ·
          obtain ⟨rfl, rfl⟩ := j_inj2 hf
          exact hleF
        ·
          obtain ⟨rfl, rfl⟩ := j_inj2 hf
          exact hleF
      refine x_callV (As := [.int v83, .int v85]) (rest := []) C dL_law_337 (m_X11_coefficient (l := l) (E := E) (d := d - 1) (by omega) e88) km_X11_coefficient lk_L_41 kv_X11_coefficient (ci := 8) rfl e98 rfl (by omega) (Nat.le_of_ble_eq_true rfl) (n_X11_coefficient e88) (Or.inl hle) ?_
      refine x_aload_n (v := a2) C dL_law_340 rfl ?_
      refine x_aload_n (v := a0) C dL_law_341 rfl ?_
      refine x_iload (v := z) C dL_law_342 rfl ?_
      refine x_iconst C dL_law_344 ki_1 ?_
      refine x_iadd C dL_law_345 ?_
      obtain ⟨v89, e90, hf⟩ := j_bind hf
      refine x_iald C dL_law_346 e90 ?_
      refine x_aload_n (v := a0) C dL_law_347 rfl ?_
      refine x_iload (v := z) C dL_law_348 rfl ?_
      refine x_iconst C dL_law_350 ki_2 ?_
      refine x_iadd C dL_law_351 ?_
      obtain ⟨v91, e92, hf⟩ := j_bind hf
      refine x_iald C dL_law_352 e92 ?_
      obtain ⟨u95, e96, hf⟩ := j_bind hf
      obtain ⟨q93, e94, hf⟩ := j_bind hf
      refine x_callV (As := [.int v89, .int v91]) (rest := [.int q87.1]) C dL_law_353 (m_X12_coefficient (l := l) (E := E) (d := d - 1) (by omega) e94) km_X12_coefficient lk_L_44 kv_X12_coefficient (ci := 9) rfl e96 rfl (by omega) (Nat.le_of_ble_eq_true rfl) (j_le_of (q_X12_coefficient e94)) (Or.inr (q_X12_coefficient e94)) ?_
      refine x_icmp_eq (tgt := 1333) C dL_law_356 (by decide) (fun c555 => ?_) (fun c555 => ?_)
      · have hf := j_ifp hf c555
        refine x_iinc (v := z) C dL_law_1333 rfl ki_6 (by decide) ?_
        refine x_goto (tgt := 23) C dL_law_1336 (by decide) ?_
        obtain ⟨rfl, rfl⟩ := j_inj2 hf
        exact x_locr hk rfl
      · have hf := j_ifn hf c555
        refine x_iconst C dL_law_359 ki_0 ?_
        obtain ⟨rfl, rfl⟩ := j_inj2 hf
        obtain ⟨rfl, rfl⟩ := hk
        exact x_zret C hret (Or.inl rfl) dL_law_360
    have hf := j_ifn hf c554
    by_cases c556 : v13 &&& (31 : Int32) = (5 : Int32)
    · have hf := j_ifp hf c556
      refine x_table C dL_law_40 361 (by rw [c556]; decide) (321) (by rw [c556]; rfl) (by decide) ?_
      refine x_aload_n (v := a1) C dL_law_361 rfl ?_
      refine x_aload_n (v := a0) C dL_law_362 rfl ?_
      refine x_iload (v := z) C dL_law_363 rfl ?_
      refine x_iconst C dL_law_365 ki_1 ?_
      refine x_iadd C dL_law_366 ?_
      obtain ⟨v99, e100, hf⟩ := j_bind hf
      refine x_iald C dL_law_367 e100 ?_
      obtain ⟨u109, e110, hf⟩ := j_bind hf
      obtain ⟨q101, e102, hf⟩ := j_bind hf
      refine x_callV (As := [.int v99]) (rest := []) C dL_law_368 (m_X11_weight (l := l) (E := E) (d := d - 1) (by omega) e102) km_X11_weight lk_L_45 kv_X11_weight (ci := 8) rfl e110 rfl (by omega) (Nat.le_of_ble_eq_true rfl) (j_le_of (q_X11_weight e102)) (Or.inr (q_X11_weight e102)) ?_
      refine x_aload_n (v := a2) C dL_law_371 rfl ?_
      refine x_aload_n (v := a0) C dL_law_372 rfl ?_
      refine x_iload (v := z) C dL_law_373 rfl ?_
      refine x_iconst C dL_law_375 ki_1 ?_
      refine x_iadd C dL_law_376 ?_
      obtain ⟨v103, e104, hf⟩ := j_bind hf
      refine x_iald C dL_law_377 e104 ?_
      obtain ⟨u107, e108, hf⟩ := j_bind hf
      obtain ⟨q105, e106, hf⟩ := j_bind hf
      refine x_callV (As := [.int v103]) (rest := [.int q101.1]) C dL_law_378 (m_X12_weight (l := l) (E := E) (d := d - 1) (by omega) e106) km_X12_weight lk_L_48 kv_X12_weight (ci := 9) rfl e108 rfl (by omega) (Nat.le_of_ble_eq_true rfl) (j_le_of (q_X12_weight e106)) (Or.inr (q_X12_weight e106)) ?_
      refine x_icmp_eq (tgt := 1333) C dL_law_381 (by decide) (fun c557 => ?_) (fun c557 => ?_)
      · have hf := j_ifp hf c557
        refine x_iinc (v := z) C dL_law_1333 rfl ki_6 (by decide) ?_
        refine x_goto (tgt := 23) C dL_law_1336 (by decide) ?_
        obtain ⟨rfl, rfl⟩ := j_inj2 hf
        exact x_locr hk rfl
      · have hf := j_ifn hf c557
        refine x_iconst C dL_law_384 ki_0 ?_
        obtain ⟨rfl, rfl⟩ := j_inj2 hf
        obtain ⟨rfl, rfl⟩ := hk
        exact x_zret C hret (Or.inl rfl) dL_law_385
    have hf := j_ifn hf c556
    by_cases c558 : v13 &&& (31 : Int32) = (6 : Int32)
    · have hf := j_ifp hf c558
      refine x_table C dL_law_40 386 (by rw [c558]; decide) (346) (by rw [c558]; rfl) (by decide) ?_
      refine x_aload_n (v := a1) C dL_law_386 rfl ?_
      refine x_aload_n (v := a0) C dL_law_387 rfl ?_
      refine x_iload (v := z) C dL_law_388 rfl ?_
      refine x_iconst C dL_law_390 ki_1 ?_
      refine x_iadd C dL_law_391 ?_
      obtain ⟨v111, e112, hf⟩ := j_bind hf
      refine x_iald C dL_law_392 e112 ?_
      refine x_aload_n (v := a0) C dL_law_393 rfl ?_
      refine x_iload (v := z) C dL_law_394 rfl ?_
      refine x_iconst C dL_law_396 ki_2 ?_
      refine x_iadd C dL_law_397 ?_
      obtain ⟨v113, e114, hf⟩ := j_bind hf
      refine x_iald C dL_law_398 e114 ?_
      refine x_if_eq (tgt := 406) C dL_law_399 (by decide) (fun c559 => ?_) (fun c559 => ?_)
      · have hf := j_ifp hf c559
        refine x_iconst C dL_law_406 ki_0 ?_
        obtain ⟨u129, e130, hf⟩ := j_bind hf
        obtain ⟨q115, e116, hf⟩ := j_bind hf
        refine x_callV (As := [.int v111, .int (0 : Int32)]) (rest := []) C dL_law_407 (m_X11_makes (l := l) (E := E) (d := d - 1) (by omega) e116) km_X11_makes lk_L_49 kv_X11_makes (ci := 8) rfl e130 rfl (by omega) (Nat.le_of_ble_eq_true rfl) (j_le_of (q_X11_makes e116)) (Or.inr (q_X11_makes e116)) ?_
        refine x_aload_n (v := a2) C dL_law_410 rfl ?_
        refine x_aload_n (v := a0) C dL_law_411 rfl ?_
        refine x_iload (v := z) C dL_law_412 rfl ?_
        refine x_iconst C dL_law_414 ki_1 ?_
        refine x_iadd C dL_law_415 ?_
        obtain ⟨v117, e118, hf⟩ := j_bind hf
        refine x_iald C dL_law_416 e118 ?_
        refine x_aload_n (v := a0) C dL_law_417 rfl ?_
        refine x_iload (v := z) C dL_law_418 rfl ?_
        refine x_iconst C dL_law_420 ki_2 ?_
        refine x_iadd C dL_law_421 ?_
        obtain ⟨v119, e120, hf⟩ := j_bind hf
        refine x_iald C dL_law_422 e120 ?_
        refine x_if_eq (tgt := 430) C dL_law_423 (by decide) (fun c560 => ?_) (fun c560 => ?_)
        · have hf := j_ifp hf c560
          refine x_iconst C dL_law_430 ki_0 ?_
          obtain ⟨u123, e124, hf⟩ := j_bind hf
          obtain ⟨q121, e122, hf⟩ := j_bind hf
          refine x_callV (As := [.int v117, .int (0 : Int32)]) (rest := [.int q115.1]) C dL_law_431 (m_X12_makes (l := l) (E := E) (d := d - 1) (by omega) e122) km_X12_makes lk_L_53 kv_X12_makes (ci := 9) rfl e124 rfl (by omega) (Nat.le_of_ble_eq_true rfl) (j_le_of (q_X12_makes e122)) (Or.inr (q_X12_makes e122)) ?_
          refine x_icmp_eq (tgt := 1333) C dL_law_434 (by decide) (fun c561 => ?_) (fun c561 => ?_)
          · have hf := j_ifp hf c561
            refine x_iinc (v := z) C dL_law_1333 rfl ki_6 (by decide) ?_
            refine x_goto (tgt := 23) C dL_law_1336 (by decide) ?_
            obtain ⟨rfl, rfl⟩ := j_inj2 hf
            exact x_locr hk rfl
          · have hf := j_ifn hf c561
            refine x_iconst C dL_law_437 ki_0 ?_
            obtain ⟨rfl, rfl⟩ := j_inj2 hf
            obtain ⟨rfl, rfl⟩ := hk
            exact x_zret C hret (Or.inl rfl) dL_law_438
        · have hf := j_ifn hf c560
          refine x_iconst C dL_law_426 ki_1 ?_
          refine x_goto (tgt := 431) C dL_law_427 (by decide) ?_
          obtain ⟨u127, e128, hf⟩ := j_bind hf
          obtain ⟨q125, e126, hf⟩ := j_bind hf
          refine x_callV (As := [.int v117, .int (1 : Int32)]) (rest := [.int q115.1]) C dL_law_431 (m_X12_makes (l := l) (E := E) (d := d - 1) (by omega) e126) km_X12_makes lk_L_53 kv_X12_makes (ci := 9) rfl e128 rfl (by omega) (Nat.le_of_ble_eq_true rfl) (j_le_of (q_X12_makes e126)) (Or.inr (q_X12_makes e126)) ?_
          refine x_icmp_eq (tgt := 1333) C dL_law_434 (by decide) (fun c562 => ?_) (fun c562 => ?_)
          · have hf := j_ifp hf c562
            refine x_iinc (v := z) C dL_law_1333 rfl ki_6 (by decide) ?_
            refine x_goto (tgt := 23) C dL_law_1336 (by decide) ?_
            obtain ⟨rfl, rfl⟩ := j_inj2 hf
            exact x_locr hk rfl
          · have hf := j_ifn hf c562
            refine x_iconst C dL_law_437 ki_0 ?_
            obtain ⟨rfl, rfl⟩ := j_inj2 hf
            obtain ⟨rfl, rfl⟩ := hk
            exact x_zret C hret (Or.inl rfl) dL_law_438
      · have hf := j_ifn hf c559
        refine x_iconst C dL_law_402 ki_1 ?_
        refine x_goto (tgt := 407) C dL_law_403 (by decide) ?_
        obtain ⟨u145, e146, hf⟩ := j_bind hf
        obtain ⟨q131, e132, hf⟩ := j_bind hf
        refine x_callV (As := [.int v111, .int (1 : Int32)]) (rest := []) C dL_law_407 (m_X11_makes (l := l) (E := E) (d := d - 1) (by omega) e132) km_X11_makes lk_L_49 kv_X11_makes (ci := 8) rfl e146 rfl (by omega) (Nat.le_of_ble_eq_true rfl) (j_le_of (q_X11_makes e132)) (Or.inr (q_X11_makes e132)) ?_
        refine x_aload_n (v := a2) C dL_law_410 rfl ?_
        refine x_aload_n (v := a0) C dL_law_411 rfl ?_
        refine x_iload (v := z) C dL_law_412 rfl ?_
        refine x_iconst C dL_law_414 ki_1 ?_
        refine x_iadd C dL_law_415 ?_
        obtain ⟨v133, e134, hf⟩ := j_bind hf
        refine x_iald C dL_law_416 e134 ?_
        refine x_aload_n (v := a0) C dL_law_417 rfl ?_
        refine x_iload (v := z) C dL_law_418 rfl ?_
        refine x_iconst C dL_law_420 ki_2 ?_
        refine x_iadd C dL_law_421 ?_
        obtain ⟨v135, e136, hf⟩ := j_bind hf
        refine x_iald C dL_law_422 e136 ?_
        refine x_if_eq (tgt := 430) C dL_law_423 (by decide) (fun c563 => ?_) (fun c563 => ?_)
        · have hf := j_ifp hf c563
          refine x_iconst C dL_law_430 ki_0 ?_
          obtain ⟨u139, e140, hf⟩ := j_bind hf
          obtain ⟨q137, e138, hf⟩ := j_bind hf
          refine x_callV (As := [.int v133, .int (0 : Int32)]) (rest := [.int q131.1]) C dL_law_431 (m_X12_makes (l := l) (E := E) (d := d - 1) (by omega) e138) km_X12_makes lk_L_53 kv_X12_makes (ci := 9) rfl e140 rfl (by omega) (Nat.le_of_ble_eq_true rfl) (j_le_of (q_X12_makes e138)) (Or.inr (q_X12_makes e138)) ?_
          refine x_icmp_eq (tgt := 1333) C dL_law_434 (by decide) (fun c564 => ?_) (fun c564 => ?_)
          · have hf := j_ifp hf c564
            refine x_iinc (v := z) C dL_law_1333 rfl ki_6 (by decide) ?_
            refine x_goto (tgt := 23) C dL_law_1336 (by decide) ?_
            obtain ⟨rfl, rfl⟩ := j_inj2 hf
            exact x_locr hk rfl
          · have hf := j_ifn hf c564
            refine x_iconst C dL_law_437 ki_0 ?_
            obtain ⟨rfl, rfl⟩ := j_inj2 hf
            obtain ⟨rfl, rfl⟩ := hk
            exact x_zret C hret (Or.inl rfl) dL_law_438
        · have hf := j_ifn hf c563
          refine x_iconst C dL_law_426 ki_1 ?_
          refine x_goto (tgt := 431) C dL_law_427 (by decide) ?_
          obtain ⟨u143, e144, hf⟩ := j_bind hf
          obtain ⟨q141, e142, hf⟩ := j_bind hf
          refine x_callV (As := [.int v133, .int (1 : Int32)]) (rest := [.int q131.1]) C dL_law_431 (m_X12_makes (l := l) (E := E) (d := d - 1) (by omega) e142) km_X12_makes lk_L_53 kv_X12_makes (ci := 9) rfl e144 rfl (by omega) (Nat.le_of_ble_eq_true rfl) (j_le_of (q_X12_makes e142)) (Or.inr (q_X12_makes e142)) ?_
          refine x_icmp_eq (tgt := 1333) C dL_law_434 (by decide) (fun c565 => ?_) (fun c565 => ?_)
          · have hf := j_ifp hf c565
            refine x_iinc (v := z) C dL_law_1333 rfl ki_6 (by decide) ?_
            refine x_goto (tgt := 23) C dL_law_1336 (by decide) ?_
            obtain ⟨rfl, rfl⟩ := j_inj2 hf
            exact x_locr hk rfl
          · have hf := j_ifn hf c565
            refine x_iconst C dL_law_437 ki_0 ?_
            obtain ⟨rfl, rfl⟩ := j_inj2 hf
            obtain ⟨rfl, rfl⟩ := hk
            exact x_zret C hret (Or.inl rfl) dL_law_438
    have hf := j_ifn hf c558
    by_cases c566 : v13 &&& (31 : Int32) = (7 : Int32)
    · have hf := j_ifp hf c566
      refine x_table C dL_law_40 439 (by rw [c566]; decide) (399) (by rw [c566]; rfl) (by decide) ?_
      refine x_aload_n (v := a1) C dL_law_439 rfl ?_
      refine x_aload_n (v := a0) C dL_law_440 rfl ?_
      refine x_iload (v := z) C dL_law_441 rfl ?_
      refine x_iconst C dL_law_443 ki_1 ?_
      refine x_iadd C dL_law_444 ?_
      obtain ⟨v147, e148, hf⟩ := j_bind hf
      refine x_iald C dL_law_445 e148 ?_
      refine x_aload_n (v := a3) C dL_law_446 rfl ?_
      obtain ⟨q149, e150, hf⟩ := j_bind hf
      have hle : j_le q149.2 hF := by
        obtain ⟨v151, e152, hf⟩ := j_bind hf
        obtain ⟨u161, e162, hf⟩ := j_bind hf
        obtain ⟨q153, e154, hf⟩ := j_bind hf
        refine j_le_trans (j_le_of ((q_X12_whole e154))) ?_
        obtain ⟨u159, e160, hf⟩ := j_bind hf
        obtain ⟨q155, e156, hf⟩ := j_bind hf
        refine j_le_trans (j_le_of ((q_X12_thrown e156))) ?_
        rcases j_ite hf with hf | hf
        ·
          rcases j_ite hf with hf | hf
          ·
            obtain ⟨v157, e158, hf⟩ := j_bind hf
            rcases j_ite hf with hf | hf
            ·
              obtain ⟨rfl, rfl⟩ := j_inj2 hf
              exact hleF
            ·
              obtain ⟨rfl, rfl⟩ := j_inj2 hf
              exact hleF
          ·
            obtain ⟨rfl, rfl⟩ := j_inj2 hf
            exact hleF
        ·
          obtain ⟨rfl, rfl⟩ := j_inj2 hf
          exact hleF
      refine x_callSW (As := [.ref a1, .int v147, .ref a3]) (rest := []) C dL_law_447 (m_L_whole hfl (l := l) (E := E) (d := d - 1) (by omega) e150) kw_L_whole lk_L_54 ks_L_whole rfl (by omega) (Nat.le_of_ble_eq_true rfl) (n_L_whole e150) (Or.inl hle) ?_
      refine x_istore C dL_law_450 (by decide) ?_
      refine x_aload_n (v := a2) C dL_law_452 rfl ?_
      refine x_aload_n (v := a0) C dL_law_453 rfl ?_
      refine x_iload (v := z) C dL_law_454 rfl ?_
      refine x_iconst C dL_law_456 ki_1 ?_
      refine x_iadd C dL_law_457 ?_
      obtain ⟨v151, e152, hf⟩ := j_bind hf
      refine x_iald C dL_law_458 e152 ?_
      obtain ⟨u161, e162, hf⟩ := j_bind hf
      obtain ⟨q153, e154, hf⟩ := j_bind hf
      refine x_callV (As := [.int v151]) (rest := []) C dL_law_459 (m_X12_whole (l := l) (E := E) (d := d - 1) (by omega) e154) km_X12_whole lk_L_59 kv_X12_whole (ci := 9) rfl e162 rfl (by omega) (Nat.le_of_ble_eq_true rfl) (j_le_of (q_X12_whole e154)) (Or.inr (q_X12_whole e154)) ?_
      refine x_istore C dL_law_462 (by decide) ?_
      refine x_aload_n (v := a2) C dL_law_464 rfl ?_
      obtain ⟨u159, e160, hf⟩ := j_bind hf
      obtain ⟨q155, e156, hf⟩ := j_bind hf
      refine x_callV (As := []) (rest := []) C dL_law_465 (m_X12_thrown (l := l) (E := E) (d := d - 1) (by omega) e156) km_X12_thrown lk_L_60 kv_X12_thrown (ci := 9) rfl e160 rfl (by omega) (Nat.le_of_ble_eq_true rfl) (j_le_of (q_X12_thrown e156)) (Or.inr (q_X12_thrown e156)) ?_
      refine x_iload (v := q149.1) C dL_law_468 rfl ?_
      refine x_icmp_eq (tgt := 475) C dL_law_470 (by decide) (fun c567 => ?_) (fun c567 => ?_)
      · have hf := j_ifp hf c567
        refine x_iload (v := q149.1) C dL_law_475 rfl ?_
        refine x_if_ne (tgt := 492) C dL_law_477 (by decide) (fun c568 => ?_) (fun c568 => ?_)
        · have hf := j_ifn hf c568
          refine x_goto (tgt := 1333) C dL_law_492 (by decide) ?_
          refine x_iinc (v := z) C dL_law_1333 rfl ki_6 (by decide) ?_
          refine x_goto (tgt := 23) C dL_law_1336 (by decide) ?_
          obtain ⟨rfl, rfl⟩ := j_inj2 hf
          exact x_locr hk rfl
        · have hf := j_ifp hf c568
          refine x_aload_n (v := a3) C dL_law_480 rfl ?_
          refine x_iconst C dL_law_481 ki_0 ?_
          obtain ⟨v157, e158, hf⟩ := j_bind hf
          refine x_lald C dL_law_482 e158 ?_
          refine x_iload (v := q153.1) C dL_law_483 rfl ?_
          refine x_i2l C dL_law_485 ?_
          refine x_lcmp C dL_law_486 ?_
          refine x_if_eq (tgt := 492) C dL_law_487 (by decide) (fun c569 => ?_) (fun c569 => ?_)
          · have hf := j_ifp hf c569
            refine x_goto (tgt := 1333) C dL_law_492 (by decide) ?_
            refine x_iinc (v := z) C dL_law_1333 rfl ki_6 (by decide) ?_
            refine x_goto (tgt := 23) C dL_law_1336 (by decide) ?_
            obtain ⟨rfl, rfl⟩ := j_inj2 hf
            exact x_locr hk rfl
          · have hf := j_ifn hf c569
            refine x_iconst C dL_law_490 ki_0 ?_
            obtain ⟨rfl, rfl⟩ := j_inj2 hf
            obtain ⟨rfl, rfl⟩ := hk
            exact x_zret C hret (Or.inl rfl) dL_law_491
      · have hf := j_ifn hf c567
        refine x_iconst C dL_law_473 ki_0 ?_
        obtain ⟨rfl, rfl⟩ := j_inj2 hf
        obtain ⟨rfl, rfl⟩ := hk
        exact x_zret C hret (Or.inl rfl) dL_law_474
    have hf := j_ifn hf c566
    by_cases c570 : v13 &&& (31 : Int32) = (8 : Int32)
    · have hf := j_ifp hf c570
      refine x_table C dL_law_40 495 (by rw [c570]; decide) (455) (by rw [c570]; rfl) (by decide) ?_
      refine x_aload_n (v := a1) C dL_law_495 rfl ?_
      refine x_aload_n (v := a0) C dL_law_496 rfl ?_
      refine x_iload (v := z) C dL_law_497 rfl ?_
      refine x_iconst C dL_law_499 ki_1 ?_
      refine x_iadd C dL_law_500 ?_
      obtain ⟨v163, e164, hf⟩ := j_bind hf
      refine x_iald C dL_law_501 e164 ?_
      obtain ⟨u173, e174, hf⟩ := j_bind hf
      obtain ⟨q165, e166, hf⟩ := j_bind hf
      refine x_callV (As := [.int v163]) (rest := []) C dL_law_502 (m_X11_small (l := l) (E := E) (d := d - 1) (by omega) e166) km_X11_small lk_L_64 kv_X11_small (ci := 8) rfl e174 rfl (by omega) (Nat.le_of_ble_eq_true rfl) (j_le_of (q_X11_small e166)) (Or.inr (q_X11_small e166)) ?_
      refine x_aload_n (v := a2) C dL_law_505 rfl ?_
      refine x_aload_n (v := a0) C dL_law_506 rfl ?_
      refine x_iload (v := z) C dL_law_507 rfl ?_
      refine x_iconst C dL_law_509 ki_1 ?_
      refine x_iadd C dL_law_510 ?_
      obtain ⟨v167, e168, hf⟩ := j_bind hf
      refine x_iald C dL_law_511 e168 ?_
      obtain ⟨u171, e172, hf⟩ := j_bind hf
      obtain ⟨q169, e170, hf⟩ := j_bind hf
      refine x_callV (As := [.int v167]) (rest := [.int q165.1]) C dL_law_512 (m_X12_small (l := l) (E := E) (d := d - 1) (by omega) e170) km_X12_small lk_L_67 kv_X12_small (ci := 9) rfl e172 rfl (by omega) (Nat.le_of_ble_eq_true rfl) (j_le_of (q_X12_small e170)) (Or.inr (q_X12_small e170)) ?_
      refine x_icmp_eq (tgt := 1333) C dL_law_515 (by decide) (fun c571 => ?_) (fun c571 => ?_)
      · have hf := j_ifp hf c571
        refine x_iinc (v := z) C dL_law_1333 rfl ki_6 (by decide) ?_
        refine x_goto (tgt := 23) C dL_law_1336 (by decide) ?_
        obtain ⟨rfl, rfl⟩ := j_inj2 hf
        exact x_locr hk rfl
      · have hf := j_ifn hf c571
        refine x_iconst C dL_law_518 ki_0 ?_
        obtain ⟨rfl, rfl⟩ := j_inj2 hf
        obtain ⟨rfl, rfl⟩ := hk
        exact x_zret C hret (Or.inl rfl) dL_law_519
    have hf := j_ifn hf c570
    by_cases c572 : v13 &&& (31 : Int32) = (9 : Int32)
    · have hf := j_ifp hf c572
      refine x_table C dL_law_40 520 (by rw [c572]; decide) (480) (by rw [c572]; rfl) (by decide) ?_
      refine x_aload_n (v := a1) C dL_law_520 rfl ?_
      refine x_aload_n (v := a0) C dL_law_521 rfl ?_
      refine x_iload (v := z) C dL_law_522 rfl ?_
      refine x_iconst C dL_law_524 ki_1 ?_
      refine x_iadd C dL_law_525 ?_
      obtain ⟨v175, e176, hf⟩ := j_bind hf
      refine x_iald C dL_law_526 e176 ?_
      refine x_aload_n (v := a0) C dL_law_527 rfl ?_
      refine x_iload (v := z) C dL_law_528 rfl ?_
      refine x_iconst C dL_law_530 ki_2 ?_
      refine x_iadd C dL_law_531 ?_
      obtain ⟨v177, e178, hf⟩ := j_bind hf
      refine x_iald C dL_law_532 e178 ?_
      obtain ⟨u189, e190, hf⟩ := j_bind hf
      obtain ⟨q179, e180, hf⟩ := j_bind hf
      refine x_callV (As := [.int v175, .int v177]) (rest := []) C dL_law_533 (m_X11_trace (l := l) (E := E) (d := d - 1) (by omega) e180) km_X11_trace lk_L_68 kv_X11_trace (ci := 8) rfl e190 rfl (by omega) (Nat.le_of_ble_eq_true rfl) (j_le_of (q_X11_trace e180)) (Or.inr (q_X11_trace e180)) ?_
      refine x_aload_n (v := a2) C dL_law_536 rfl ?_
      refine x_aload_n (v := a0) C dL_law_537 rfl ?_
      refine x_iload (v := z) C dL_law_538 rfl ?_
      refine x_iconst C dL_law_540 ki_1 ?_
      refine x_iadd C dL_law_541 ?_
      obtain ⟨v181, e182, hf⟩ := j_bind hf
      refine x_iald C dL_law_542 e182 ?_
      refine x_aload_n (v := a0) C dL_law_543 rfl ?_
      refine x_iload (v := z) C dL_law_544 rfl ?_
      refine x_iconst C dL_law_546 ki_2 ?_
      refine x_iadd C dL_law_547 ?_
      obtain ⟨v183, e184, hf⟩ := j_bind hf
      refine x_iald C dL_law_548 e184 ?_
      obtain ⟨u187, e188, hf⟩ := j_bind hf
      obtain ⟨q185, e186, hf⟩ := j_bind hf
      refine x_callV (As := [.int v181, .int v183]) (rest := [.long q179.1]) C dL_law_549 (m_X12_trace (l := l) (E := E) (d := d - 1) (by omega) e186) km_X12_trace lk_L_72 kv_X12_trace (ci := 9) rfl e188 rfl (by omega) (Nat.le_of_ble_eq_true rfl) (j_le_of (q_X12_trace e186)) (Or.inr (q_X12_trace e186)) ?_
      refine x_lcmp C dL_law_552 ?_
      refine x_if_eq (tgt := 1333) C dL_law_553 (by decide) (fun c573 => ?_) (fun c573 => ?_)
      · have hf := j_ifp hf c573
        refine x_iinc (v := z) C dL_law_1333 rfl ki_6 (by decide) ?_
        refine x_goto (tgt := 23) C dL_law_1336 (by decide) ?_
        obtain ⟨rfl, rfl⟩ := j_inj2 hf
        exact x_locr hk rfl
      · have hf := j_ifn hf c573
        refine x_iconst C dL_law_556 ki_0 ?_
        obtain ⟨rfl, rfl⟩ := j_inj2 hf
        obtain ⟨rfl, rfl⟩ := hk
        exact x_zret C hret (Or.inl rfl) dL_law_557
    have hf := j_ifn hf c572
    by_cases c574 : v13 &&& (31 : Int32) = (10 : Int32)
    · have hf := j_ifp hf c574
      refine x_table C dL_law_40 558 (by rw [c574]; decide) (518) (by rw [c574]; rfl) (by decide) ?_
      refine x_aload_n (v := a1) C dL_law_558 rfl ?_
      refine x_aload_n (v := a0) C dL_law_559 rfl ?_
      refine x_iload (v := z) C dL_law_560 rfl ?_
      refine x_iconst C dL_law_562 ki_1 ?_
      refine x_iadd C dL_law_563 ?_
      obtain ⟨v191, e192, hf⟩ := j_bind hf
      refine x_iald C dL_law_564 e192 ?_
      refine x_aload_n (v := a0) C dL_law_565 rfl ?_
      refine x_iload (v := z) C dL_law_566 rfl ?_
      refine x_iconst C dL_law_568 ki_2 ?_
      refine x_iadd C dL_law_569 ?_
      obtain ⟨v193, e194, hf⟩ := j_bind hf
      refine x_iald C dL_law_570 e194 ?_
      obtain ⟨u205, e206, hf⟩ := j_bind hf
      obtain ⟨q195, e196, hf⟩ := j_bind hf
      refine x_callV (As := [.int v191, .int v193]) (rest := []) C dL_law_571 (m_X11_traceLeft (l := l) (E := E) (d := d - 1) (by omega) e196) km_X11_traceLeft lk_L_73 kv_X11_traceLeft (ci := 8) rfl e206 rfl (by omega) (Nat.le_of_ble_eq_true rfl) (j_le_of (q_X11_traceLeft e196)) (Or.inr (q_X11_traceLeft e196)) ?_
      refine x_aload_n (v := a2) C dL_law_574 rfl ?_
      refine x_aload_n (v := a0) C dL_law_575 rfl ?_
      refine x_iload (v := z) C dL_law_576 rfl ?_
      refine x_iconst C dL_law_578 ki_1 ?_
      refine x_iadd C dL_law_579 ?_
      obtain ⟨v197, e198, hf⟩ := j_bind hf
      refine x_iald C dL_law_580 e198 ?_
      refine x_aload_n (v := a0) C dL_law_581 rfl ?_
      refine x_iload (v := z) C dL_law_582 rfl ?_
      refine x_iconst C dL_law_584 ki_2 ?_
      refine x_iadd C dL_law_585 ?_
      obtain ⟨v199, e200, hf⟩ := j_bind hf
      refine x_iald C dL_law_586 e200 ?_
      obtain ⟨u203, e204, hf⟩ := j_bind hf
      obtain ⟨q201, e202, hf⟩ := j_bind hf
      refine x_callV (As := [.int v197, .int v199]) (rest := [.int q195.1]) C dL_law_587 (m_X12_traceLeft (l := l) (E := E) (d := d - 1) (by omega) e202) km_X12_traceLeft lk_L_76 kv_X12_traceLeft (ci := 9) rfl e204 rfl (by omega) (Nat.le_of_ble_eq_true rfl) (j_le_of (q_X12_traceLeft e202)) (Or.inr (q_X12_traceLeft e202)) ?_
      refine x_icmp_eq (tgt := 1333) C dL_law_590 (by decide) (fun c575 => ?_) (fun c575 => ?_)
      · have hf := j_ifp hf c575
        refine x_iinc (v := z) C dL_law_1333 rfl ki_6 (by decide) ?_
        refine x_goto (tgt := 23) C dL_law_1336 (by decide) ?_
        obtain ⟨rfl, rfl⟩ := j_inj2 hf
        exact x_locr hk rfl
      · have hf := j_ifn hf c575
        refine x_iconst C dL_law_593 ki_0 ?_
        obtain ⟨rfl, rfl⟩ := j_inj2 hf
        obtain ⟨rfl, rfl⟩ := hk
        exact x_zret C hret (Or.inl rfl) dL_law_594
    have hf := j_ifn hf c574
    by_cases c576 : v13 &&& (31 : Int32) = (11 : Int32)
    · have hf := j_ifp hf c576
      refine x_table C dL_law_40 595 (by rw [c576]; decide) (555) (by rw [c576]; rfl) (by decide) ?_
      refine x_aload_n (v := a1) C dL_law_595 rfl ?_
      refine x_aload_n (v := a0) C dL_law_596 rfl ?_
      refine x_iload (v := z) C dL_law_597 rfl ?_
      refine x_iconst C dL_law_599 ki_1 ?_
      refine x_iadd C dL_law_600 ?_
      obtain ⟨v207, e208, hf⟩ := j_bind hf
      refine x_iald C dL_law_601 e208 ?_
      refine x_aload_n (v := a0) C dL_law_602 rfl ?_
      refine x_iload (v := z) C dL_law_603 rfl ?_
      refine x_iconst C dL_law_605 ki_2 ?_
      refine x_iadd C dL_law_606 ?_
      obtain ⟨v209, e210, hf⟩ := j_bind hf
      refine x_iald C dL_law_607 e210 ?_
      obtain ⟨u221, e222, hf⟩ := j_bind hf
      obtain ⟨q211, e212, hf⟩ := j_bind hf
      refine x_callV (As := [.int v207, .int v209]) (rest := []) C dL_law_608 (m_X11_share (l := l) (E := E) (d := d - 1) (by omega) e212) km_X11_share lk_L_77 kv_X11_share (ci := 8) rfl e222 rfl (by omega) (Nat.le_of_ble_eq_true rfl) (j_le_of (q_X11_share e212)) (Or.inr (q_X11_share e212)) ?_
      refine x_aload_n (v := a2) C dL_law_611 rfl ?_
      refine x_aload_n (v := a0) C dL_law_612 rfl ?_
      refine x_iload (v := z) C dL_law_613 rfl ?_
      refine x_iconst C dL_law_615 ki_1 ?_
      refine x_iadd C dL_law_616 ?_
      obtain ⟨v213, e214, hf⟩ := j_bind hf
      refine x_iald C dL_law_617 e214 ?_
      refine x_aload_n (v := a0) C dL_law_618 rfl ?_
      refine x_iload (v := z) C dL_law_619 rfl ?_
      refine x_iconst C dL_law_621 ki_2 ?_
      refine x_iadd C dL_law_622 ?_
      obtain ⟨v215, e216, hf⟩ := j_bind hf
      refine x_iald C dL_law_623 e216 ?_
      obtain ⟨u219, e220, hf⟩ := j_bind hf
      obtain ⟨q217, e218, hf⟩ := j_bind hf
      refine x_callV (As := [.int v213, .int v215]) (rest := [.int q211.1]) C dL_law_624 (m_X12_share (l := l) (E := E) (d := d - 1) (by omega) e218) km_X12_share lk_L_80 kv_X12_share (ci := 9) rfl e220 rfl (by omega) (Nat.le_of_ble_eq_true rfl) (j_le_of (q_X12_share e218)) (Or.inr (q_X12_share e218)) ?_
      refine x_icmp_eq (tgt := 1333) C dL_law_627 (by decide) (fun c577 => ?_) (fun c577 => ?_)
      · have hf := j_ifp hf c577
        refine x_iinc (v := z) C dL_law_1333 rfl ki_6 (by decide) ?_
        refine x_goto (tgt := 23) C dL_law_1336 (by decide) ?_
        obtain ⟨rfl, rfl⟩ := j_inj2 hf
        exact x_locr hk rfl
      · have hf := j_ifn hf c577
        refine x_iconst C dL_law_630 ki_0 ?_
        obtain ⟨rfl, rfl⟩ := j_inj2 hf
        obtain ⟨rfl, rfl⟩ := hk
        exact x_zret C hret (Or.inl rfl) dL_law_631
    have hf := j_ifn hf c576
    by_cases c578 : v13 &&& (31 : Int32) = (12 : Int32)
    · have hf := j_ifp hf c578
      refine x_table C dL_law_40 632 (by rw [c578]; decide) (592) (by rw [c578]; rfl) (by decide) ?_
      refine x_aload_n (v := a1) C dL_law_632 rfl ?_
      refine x_aload_n (v := a0) C dL_law_633 rfl ?_
      refine x_iload (v := z) C dL_law_634 rfl ?_
      refine x_iconst C dL_law_636 ki_1 ?_
      refine x_iadd C dL_law_637 ?_
      obtain ⟨v223, e224, hf⟩ := j_bind hf
      refine x_iald C dL_law_638 e224 ?_
      refine x_aload_n (v := a0) C dL_law_639 rfl ?_
      refine x_iload (v := z) C dL_law_640 rfl ?_
      refine x_iconst C dL_law_642 ki_2 ?_
      refine x_iadd C dL_law_643 ?_
      obtain ⟨v225, e226, hf⟩ := j_bind hf
      refine x_iald C dL_law_644 e226 ?_
      obtain ⟨u237, e238, hf⟩ := j_bind hf
      obtain ⟨q227, e228, hf⟩ := j_bind hf
      refine x_callV (As := [.int v223, .int v225]) (rest := []) C dL_law_645 (m_X11_take (l := l) (E := E) (d := d - 1) (by omega) e228) km_X11_take lk_L_81 kv_X11_take (ci := 8) rfl e238 rfl (by omega) (Nat.le_of_ble_eq_true rfl) (j_le_of (q_X11_take e228)) (Or.inr (q_X11_take e228)) ?_
      refine x_aload_n (v := a2) C dL_law_648 rfl ?_
      refine x_aload_n (v := a0) C dL_law_649 rfl ?_
      refine x_iload (v := z) C dL_law_650 rfl ?_
      refine x_iconst C dL_law_652 ki_1 ?_
      refine x_iadd C dL_law_653 ?_
      obtain ⟨v229, e230, hf⟩ := j_bind hf
      refine x_iald C dL_law_654 e230 ?_
      refine x_aload_n (v := a0) C dL_law_655 rfl ?_
      refine x_iload (v := z) C dL_law_656 rfl ?_
      refine x_iconst C dL_law_658 ki_2 ?_
      refine x_iadd C dL_law_659 ?_
      obtain ⟨v231, e232, hf⟩ := j_bind hf
      refine x_iald C dL_law_660 e232 ?_
      obtain ⟨u235, e236, hf⟩ := j_bind hf
      obtain ⟨q233, e234, hf⟩ := j_bind hf
      refine x_callV (As := [.int v229, .int v231]) (rest := [.int q227.1]) C dL_law_661 (m_X12_take (l := l) (E := E) (d := d - 1) (by omega) e234) km_X12_take lk_L_84 kv_X12_take (ci := 9) rfl e236 rfl (by omega) (Nat.le_of_ble_eq_true rfl) (j_le_of (q_X12_take e234)) (Or.inr (q_X12_take e234)) ?_
      refine x_icmp_eq (tgt := 1333) C dL_law_664 (by decide) (fun c579 => ?_) (fun c579 => ?_)
      · have hf := j_ifp hf c579
        refine x_iinc (v := z) C dL_law_1333 rfl ki_6 (by decide) ?_
        refine x_goto (tgt := 23) C dL_law_1336 (by decide) ?_
        obtain ⟨rfl, rfl⟩ := j_inj2 hf
        exact x_locr hk rfl
      · have hf := j_ifn hf c579
        refine x_iconst C dL_law_667 ki_0 ?_
        obtain ⟨rfl, rfl⟩ := j_inj2 hf
        obtain ⟨rfl, rfl⟩ := hk
        exact x_zret C hret (Or.inl rfl) dL_law_668
    have hf := j_ifn hf c578
    by_cases c580 : v13 &&& (31 : Int32) = (13 : Int32)
    · have hf := j_ifp hf c580
      refine x_table C dL_law_40 669 (by rw [c580]; decide) (629) (by rw [c580]; rfl) (by decide) ?_
      refine x_aload_n (v := a1) C dL_law_669 rfl ?_
      refine x_aload_n (v := a0) C dL_law_670 rfl ?_
      refine x_iload (v := z) C dL_law_671 rfl ?_
      refine x_iconst C dL_law_673 ki_1 ?_
      refine x_iadd C dL_law_674 ?_
      obtain ⟨v239, e240, hf⟩ := j_bind hf
      refine x_iald C dL_law_675 e240 ?_
      refine x_aload_n (v := a0) C dL_law_676 rfl ?_
      refine x_iload (v := z) C dL_law_677 rfl ?_
      refine x_iconst C dL_law_679 ki_2 ?_
      refine x_iadd C dL_law_680 ?_
      obtain ⟨v241, e242, hf⟩ := j_bind hf
      refine x_iald C dL_law_681 e242 ?_
      refine x_aload_n (v := a0) C dL_law_682 rfl ?_
      refine x_iload (v := z) C dL_law_683 rfl ?_
      refine x_iconst C dL_law_685 ki_3 ?_
      refine x_iadd C dL_law_686 ?_
      obtain ⟨v243, e244, hf⟩ := j_bind hf
      refine x_iald C dL_law_687 e244 ?_
      obtain ⟨u257, e258, hf⟩ := j_bind hf
      obtain ⟨q245, e246, hf⟩ := j_bind hf
      refine x_callV (As := [.int v239, .int v241, .int v243]) (rest := []) C dL_law_688 (m_X11_plus (l := l) (E := E) (d := d - 1) (by omega) e246) km_X11_plus lk_L_85 kv_X11_plus (ci := 8) rfl e258 rfl (by omega) (Nat.le_of_ble_eq_true rfl) (j_le_of (q_X11_plus e246)) (Or.inr (q_X11_plus e246)) ?_
      refine x_aload_n (v := a2) C dL_law_691 rfl ?_
      refine x_aload_n (v := a0) C dL_law_692 rfl ?_
      refine x_iload (v := z) C dL_law_693 rfl ?_
      refine x_iconst C dL_law_695 ki_1 ?_
      refine x_iadd C dL_law_696 ?_
      obtain ⟨v247, e248, hf⟩ := j_bind hf
      refine x_iald C dL_law_697 e248 ?_
      refine x_aload_n (v := a0) C dL_law_698 rfl ?_
      refine x_iload (v := z) C dL_law_699 rfl ?_
      refine x_iconst C dL_law_701 ki_2 ?_
      refine x_iadd C dL_law_702 ?_
      obtain ⟨v249, e250, hf⟩ := j_bind hf
      refine x_iald C dL_law_703 e250 ?_
      refine x_aload_n (v := a0) C dL_law_704 rfl ?_
      refine x_iload (v := z) C dL_law_705 rfl ?_
      refine x_iconst C dL_law_707 ki_3 ?_
      refine x_iadd C dL_law_708 ?_
      obtain ⟨v251, e252, hf⟩ := j_bind hf
      refine x_iald C dL_law_709 e252 ?_
      obtain ⟨u255, e256, hf⟩ := j_bind hf
      obtain ⟨q253, e254, hf⟩ := j_bind hf
      refine x_callV (As := [.int v247, .int v249, .int v251]) (rest := [.int q245.1]) C dL_law_710 (m_X12_plus_ (l := l) (E := E) (d := d - 1) (by omega) e254) km_X12_plus_ lk_L_89 kv_X12_plus_ (ci := 9) rfl e256 rfl (by omega) (Nat.le_of_ble_eq_true rfl) (j_le_of (q_X12_plus_ e254)) (Or.inr (q_X12_plus_ e254)) ?_
      refine x_icmp_eq (tgt := 1333) C dL_law_713 (by decide) (fun c581 => ?_) (fun c581 => ?_)
      · have hf := j_ifp hf c581
        refine x_iinc (v := z) C dL_law_1333 rfl ki_6 (by decide) ?_
        refine x_goto (tgt := 23) C dL_law_1336 (by decide) ?_
        obtain ⟨rfl, rfl⟩ := j_inj2 hf
        exact x_locr hk rfl
      · have hf := j_ifn hf c581
        refine x_iconst C dL_law_716 ki_0 ?_
        obtain ⟨rfl, rfl⟩ := j_inj2 hf
        obtain ⟨rfl, rfl⟩ := hk
        exact x_zret C hret (Or.inl rfl) dL_law_717
    have hf := j_ifn hf c580
    by_cases c582 : v13 &&& (31 : Int32) = (14 : Int32)
    · have hf := j_ifp hf c582
      refine x_table C dL_law_40 718 (by rw [c582]; decide) (678) (by rw [c582]; rfl) (by decide) ?_
      refine x_aload_n (v := a1) C dL_law_718 rfl ?_
      refine x_aload_n (v := a0) C dL_law_719 rfl ?_
      refine x_iload (v := z) C dL_law_720 rfl ?_
      refine x_iconst C dL_law_722 ki_1 ?_
      refine x_iadd C dL_law_723 ?_
      obtain ⟨v259, e260, hf⟩ := j_bind hf
      refine x_iald C dL_law_724 e260 ?_
      refine x_aload_n (v := a0) C dL_law_725 rfl ?_
      refine x_iload (v := z) C dL_law_726 rfl ?_
      refine x_iconst C dL_law_728 ki_2 ?_
      refine x_iadd C dL_law_729 ?_
      obtain ⟨v261, e262, hf⟩ := j_bind hf
      refine x_iald C dL_law_730 e262 ?_
      obtain ⟨u273, e274, hf⟩ := j_bind hf
      obtain ⟨q263, e264, hf⟩ := j_bind hf
      refine x_callV (As := [.int v259, .int v261]) (rest := []) C dL_law_731 (m_X11_times (l := l) (E := E) (d := d - 1) (by omega) e264) km_X11_times lk_L_90 kv_X11_times (ci := 8) rfl e274 rfl (by omega) (Nat.le_of_ble_eq_true rfl) (j_le_of (q_X11_times e264)) (Or.inr (q_X11_times e264)) ?_
      refine x_aload_n (v := a2) C dL_law_734 rfl ?_
      refine x_aload_n (v := a0) C dL_law_735 rfl ?_
      refine x_iload (v := z) C dL_law_736 rfl ?_
      refine x_iconst C dL_law_738 ki_1 ?_
      refine x_iadd C dL_law_739 ?_
      obtain ⟨v265, e266, hf⟩ := j_bind hf
      refine x_iald C dL_law_740 e266 ?_
      refine x_aload_n (v := a0) C dL_law_741 rfl ?_
      refine x_iload (v := z) C dL_law_742 rfl ?_
      refine x_iconst C dL_law_744 ki_2 ?_
      refine x_iadd C dL_law_745 ?_
      obtain ⟨v267, e268, hf⟩ := j_bind hf
      refine x_iald C dL_law_746 e268 ?_
      obtain ⟨u271, e272, hf⟩ := j_bind hf
      obtain ⟨q269, e270, hf⟩ := j_bind hf
      refine x_callV (As := [.int v265, .int v267]) (rest := [.int q263.1]) C dL_law_747 (m_X12_times_ (l := l) (E := E) (d := d - 1) (by omega) e270) km_X12_times_ lk_L_93 kv_X12_times_ (ci := 9) rfl e272 rfl (by omega) (Nat.le_of_ble_eq_true rfl) (j_le_of (q_X12_times_ e270)) (Or.inr (q_X12_times_ e270)) ?_
      refine x_icmp_eq (tgt := 1333) C dL_law_750 (by decide) (fun c583 => ?_) (fun c583 => ?_)
      · have hf := j_ifp hf c583
        refine x_iinc (v := z) C dL_law_1333 rfl ki_6 (by decide) ?_
        refine x_goto (tgt := 23) C dL_law_1336 (by decide) ?_
        obtain ⟨rfl, rfl⟩ := j_inj2 hf
        exact x_locr hk rfl
      · have hf := j_ifn hf c583
        refine x_iconst C dL_law_753 ki_0 ?_
        obtain ⟨rfl, rfl⟩ := j_inj2 hf
        obtain ⟨rfl, rfl⟩ := hk
        exact x_zret C hret (Or.inl rfl) dL_law_754
    have hf := j_ifn hf c582
    by_cases c584 : v13 &&& (31 : Int32) = (15 : Int32)
    · have hf := j_ifp hf c584
      refine x_table C dL_law_40 755 (by rw [c584]; decide) (715) (by rw [c584]; rfl) (by decide) ?_
      refine x_aload_n (v := a1) C dL_law_755 rfl ?_
      refine x_aload_n (v := a0) C dL_law_756 rfl ?_
      refine x_iload (v := z) C dL_law_757 rfl ?_
      refine x_iconst C dL_law_759 ki_1 ?_
      refine x_iadd C dL_law_760 ?_
      obtain ⟨v275, e276, hf⟩ := j_bind hf
      refine x_iald C dL_law_761 e276 ?_
      refine x_aload_n (v := a0) C dL_law_762 rfl ?_
      refine x_iload (v := z) C dL_law_763 rfl ?_
      refine x_iconst C dL_law_765 ki_2 ?_
      refine x_iadd C dL_law_766 ?_
      obtain ⟨v277, e278, hf⟩ := j_bind hf
      refine x_iald C dL_law_767 e278 ?_
      obtain ⟨u289, e290, hf⟩ := j_bind hf
      obtain ⟨q279, e280, hf⟩ := j_bind hf
      have hle : j_le q279.2 hF := by
        obtain ⟨v281, e282, hf⟩ := j_bind hf
        obtain ⟨v283, e284, hf⟩ := j_bind hf
        obtain ⟨u287, e288, hf⟩ := j_bind hf
        obtain ⟨q285, e286, hf⟩ := j_bind hf
        refine j_le_trans (j_le_of ((q_X12_hecke e286))) ?_
        rcases j_ite hf with hf | hf
        ·
          obtain ⟨rfl, rfl⟩ := j_inj2 hf
          exact hleF
        ·
          obtain ⟨rfl, rfl⟩ := j_inj2 hf
          exact hleF
      refine x_callV (As := [.int v275, .int v277]) (rest := []) C dL_law_768 (m_X11_hecke (l := l) (E := E) (d := d - 1) (by omega) e280) km_X11_hecke lk_L_94 kv_X11_hecke (ci := 8) rfl e290 rfl (by omega) (Nat.le_of_ble_eq_true rfl) (n_X11_hecke e280) (Or.inl hle) ?_
      refine x_aload_n (v := a2) C dL_law_771 rfl ?_
      refine x_aload_n (v := a0) C dL_law_772 rfl ?_
      refine x_iload (v := z) C dL_law_773 rfl ?_
      refine x_iconst C dL_law_775 ki_1 ?_
      refine x_iadd C dL_law_776 ?_
      obtain ⟨v281, e282, hf⟩ := j_bind hf
      refine x_iald C dL_law_777 e282 ?_
      refine x_aload_n (v := a0) C dL_law_778 rfl ?_
      refine x_iload (v := z) C dL_law_779 rfl ?_
      refine x_iconst C dL_law_781 ki_2 ?_
      refine x_iadd C dL_law_782 ?_
      obtain ⟨v283, e284, hf⟩ := j_bind hf
      refine x_iald C dL_law_783 e284 ?_
      obtain ⟨u287, e288, hf⟩ := j_bind hf
      obtain ⟨q285, e286, hf⟩ := j_bind hf
      refine x_callV (As := [.int v281, .int v283]) (rest := [.int q279.1]) C dL_law_784 (m_X12_hecke (l := l) (E := E) (d := d - 1) (by omega) e286) km_X12_hecke lk_L_98 kv_X12_hecke (ci := 9) rfl e288 rfl (by omega) (Nat.le_of_ble_eq_true rfl) (j_le_of (q_X12_hecke e286)) (Or.inr (q_X12_hecke e286)) ?_
      refine x_icmp_eq (tgt := 1333) C dL_law_787 (by decide) (fun c585 => ?_) (fun c585 => ?_)
      · have hf := j_ifp hf c585
        refine x_iinc (v := z) C dL_law_1333 rfl ki_6 (by decide) ?_
        refine x_goto (tgt := 23) C dL_law_1336 (by decide) ?_
        obtain ⟨rfl, rfl⟩ := j_inj2 hf
        exact x_locr hk rfl
      · have hf := j_ifn hf c585
        refine x_iconst C dL_law_790 ki_0 ?_
        obtain ⟨rfl, rfl⟩ := j_inj2 hf
        obtain ⟨rfl, rfl⟩ := hk
        exact x_zret C hret (Or.inl rfl) dL_law_791
    have hf := j_ifn hf c584
    by_cases c586 : v13 &&& (31 : Int32) = (16 : Int32)
    · have hf := j_ifp hf c586
      refine x_table C dL_law_40 792 (by rw [c586]; decide) (752) (by rw [c586]; rfl) (by decide) ?_
      refine x_aload_n (v := a1) C dL_law_792 rfl ?_
      refine x_aload_n (v := a0) C dL_law_793 rfl ?_
      refine x_iload (v := z) C dL_law_794 rfl ?_
      refine x_iconst C dL_law_796 ki_1 ?_
      refine x_iadd C dL_law_797 ?_
      obtain ⟨v291, e292, hf⟩ := j_bind hf
      refine x_iald C dL_law_798 e292 ?_
      refine x_aload_n (v := a0) C dL_law_799 rfl ?_
      refine x_iload (v := z) C dL_law_800 rfl ?_
      refine x_iconst C dL_law_802 ki_2 ?_
      refine x_iadd C dL_law_803 ?_
      obtain ⟨v293, e294, hf⟩ := j_bind hf
      refine x_iald C dL_law_804 e294 ?_
      obtain ⟨u305, e306, hf⟩ := j_bind hf
      obtain ⟨q295, e296, hf⟩ := j_bind hf
      have hle : j_le q295.2 hF := by
        obtain ⟨v297, e298, hf⟩ := j_bind hf
        obtain ⟨v299, e300, hf⟩ := j_bind hf
        obtain ⟨u303, e304, hf⟩ := j_bind hf
        obtain ⟨q301, e302, hf⟩ := j_bind hf
        refine j_le_trans (j_le_of ((q_X12_multiplies_ e302))) ?_
        rcases j_ite hf with hf | hf
        ·
          obtain ⟨rfl, rfl⟩ := j_inj2 hf
          exact hleF
        ·
          obtain ⟨rfl, rfl⟩ := j_inj2 hf
          exact hleF
      refine x_callV (As := [.int v291, .int v293]) (rest := []) C dL_law_805 (m_X11_multiplies (l := l) (E := E) (d := d - 1) (by omega) e296) km_X11_multiplies lk_L_99 kv_X11_multiplies (ci := 8) rfl e306 rfl (by omega) (Nat.le_of_ble_eq_true rfl) (n_X11_multiplies e296) (Or.inl hle) ?_
      refine x_aload_n (v := a2) C dL_law_808 rfl ?_
      refine x_aload_n (v := a0) C dL_law_809 rfl ?_
      refine x_iload (v := z) C dL_law_810 rfl ?_
      refine x_iconst C dL_law_812 ki_1 ?_
      refine x_iadd C dL_law_813 ?_
      obtain ⟨v297, e298, hf⟩ := j_bind hf
      refine x_iald C dL_law_814 e298 ?_
      refine x_aload_n (v := a0) C dL_law_815 rfl ?_
      refine x_iload (v := z) C dL_law_816 rfl ?_
      refine x_iconst C dL_law_818 ki_2 ?_
      refine x_iadd C dL_law_819 ?_
      obtain ⟨v299, e300, hf⟩ := j_bind hf
      refine x_iald C dL_law_820 e300 ?_
      obtain ⟨u303, e304, hf⟩ := j_bind hf
      obtain ⟨q301, e302, hf⟩ := j_bind hf
      refine x_callV (As := [.int v297, .int v299]) (rest := [.int q295.1]) C dL_law_821 (m_X12_multiplies_ (l := l) (E := E) (d := d - 1) (by omega) e302) km_X12_multiplies_ lk_L_102 kv_X12_multiplies_ (ci := 9) rfl e304 rfl (by omega) (Nat.le_of_ble_eq_true rfl) (j_le_of (q_X12_multiplies_ e302)) (Or.inr (q_X12_multiplies_ e302)) ?_
      refine x_icmp_eq (tgt := 1333) C dL_law_824 (by decide) (fun c587 => ?_) (fun c587 => ?_)
      · have hf := j_ifp hf c587
        refine x_iinc (v := z) C dL_law_1333 rfl ki_6 (by decide) ?_
        refine x_goto (tgt := 23) C dL_law_1336 (by decide) ?_
        obtain ⟨rfl, rfl⟩ := j_inj2 hf
        exact x_locr hk rfl
      · have hf := j_ifn hf c587
        refine x_iconst C dL_law_827 ki_0 ?_
        obtain ⟨rfl, rfl⟩ := j_inj2 hf
        obtain ⟨rfl, rfl⟩ := hk
        exact x_zret C hret (Or.inl rfl) dL_law_828
    have hf := j_ifn hf c586
    by_cases c588 : v13 &&& (31 : Int32) = (17 : Int32)
    · have hf := j_ifp hf c588
      refine x_table C dL_law_40 829 (by rw [c588]; decide) (789) (by rw [c588]; rfl) (by decide) ?_
      refine x_aload_n (v := a1) C dL_law_829 rfl ?_
      refine x_aload_n (v := a0) C dL_law_830 rfl ?_
      refine x_iload (v := z) C dL_law_831 rfl ?_
      refine x_iconst C dL_law_833 ki_1 ?_
      refine x_iadd C dL_law_834 ?_
      obtain ⟨v307, e308, hf⟩ := j_bind hf
      refine x_iald C dL_law_835 e308 ?_
      refine x_aload_n (v := a0) C dL_law_836 rfl ?_
      refine x_iload (v := z) C dL_law_837 rfl ?_
      refine x_iconst C dL_law_839 ki_2 ?_
      refine x_iadd C dL_law_840 ?_
      obtain ⟨v309, e310, hf⟩ := j_bind hf
      refine x_iald C dL_law_841 e310 ?_
      refine x_aload_n (v := a0) C dL_law_842 rfl ?_
      refine x_iload (v := z) C dL_law_843 rfl ?_
      refine x_iconst C dL_law_845 ki_3 ?_
      refine x_iadd C dL_law_846 ?_
      obtain ⟨v311, e312, hf⟩ := j_bind hf
      refine x_iald C dL_law_847 e312 ?_
      obtain ⟨u325, e326, hf⟩ := j_bind hf
      obtain ⟨q313, e314, hf⟩ := j_bind hf
      refine x_callV (As := [.int v307, .int v309, .int v311]) (rest := []) C dL_law_848 (m_X11_alike (l := l) (E := E) (d := d - 1) (by omega) e314) km_X11_alike lk_L_103 kv_X11_alike (ci := 8) rfl e326 rfl (by omega) (Nat.le_of_ble_eq_true rfl) (j_le_of (q_X11_alike e314)) (Or.inr (q_X11_alike e314)) ?_
      refine x_aload_n (v := a2) C dL_law_851 rfl ?_
      refine x_aload_n (v := a0) C dL_law_852 rfl ?_
      refine x_iload (v := z) C dL_law_853 rfl ?_
      refine x_iconst C dL_law_855 ki_1 ?_
      refine x_iadd C dL_law_856 ?_
      obtain ⟨v315, e316, hf⟩ := j_bind hf
      refine x_iald C dL_law_857 e316 ?_
      refine x_aload_n (v := a0) C dL_law_858 rfl ?_
      refine x_iload (v := z) C dL_law_859 rfl ?_
      refine x_iconst C dL_law_861 ki_2 ?_
      refine x_iadd C dL_law_862 ?_
      obtain ⟨v317, e318, hf⟩ := j_bind hf
      refine x_iald C dL_law_863 e318 ?_
      refine x_aload_n (v := a0) C dL_law_864 rfl ?_
      refine x_iload (v := z) C dL_law_865 rfl ?_
      refine x_iconst C dL_law_867 ki_3 ?_
      refine x_iadd C dL_law_868 ?_
      obtain ⟨v319, e320, hf⟩ := j_bind hf
      refine x_iald C dL_law_869 e320 ?_
      obtain ⟨u323, e324, hf⟩ := j_bind hf
      obtain ⟨q321, e322, hf⟩ := j_bind hf
      refine x_callV (As := [.int v315, .int v317, .int v319]) (rest := [.int q313.1]) C dL_law_870 (m_X12_alike (l := l) (E := E) (d := d - 1) (by omega) e322) km_X12_alike lk_L_107 kv_X12_alike (ci := 9) rfl e324 rfl (by omega) (Nat.le_of_ble_eq_true rfl) (j_le_of (q_X12_alike e322)) (Or.inr (q_X12_alike e322)) ?_
      refine x_icmp_eq (tgt := 1333) C dL_law_873 (by decide) (fun c589 => ?_) (fun c589 => ?_)
      · have hf := j_ifp hf c589
        refine x_iinc (v := z) C dL_law_1333 rfl ki_6 (by decide) ?_
        refine x_goto (tgt := 23) C dL_law_1336 (by decide) ?_
        obtain ⟨rfl, rfl⟩ := j_inj2 hf
        exact x_locr hk rfl
      · have hf := j_ifn hf c589
        refine x_iconst C dL_law_876 ki_0 ?_
        obtain ⟨rfl, rfl⟩ := j_inj2 hf
        obtain ⟨rfl, rfl⟩ := hk
        exact x_zret C hret (Or.inl rfl) dL_law_877
    have hf := j_ifn hf c588
    by_cases c590 : v13 &&& (31 : Int32) = (18 : Int32)
    · have hf := j_ifp hf c590
      refine x_table C dL_law_40 878 (by rw [c590]; decide) (838) (by rw [c590]; rfl) (by decide) ?_
      refine x_aload_n (v := a1) C dL_law_878 rfl ?_
      refine x_aload_n (v := a0) C dL_law_879 rfl ?_
      refine x_iload (v := z) C dL_law_880 rfl ?_
      refine x_iconst C dL_law_882 ki_1 ?_
      refine x_iadd C dL_law_883 ?_
      obtain ⟨v327, e328, hf⟩ := j_bind hf
      refine x_iald C dL_law_884 e328 ?_
      refine x_aload_n (v := a0) C dL_law_885 rfl ?_
      refine x_iload (v := z) C dL_law_886 rfl ?_
      refine x_iconst C dL_law_888 ki_2 ?_
      refine x_iadd C dL_law_889 ?_
      obtain ⟨v329, e330, hf⟩ := j_bind hf
      refine x_iald C dL_law_890 e330 ?_
      obtain ⟨u341, e342, hf⟩ := j_bind hf
      obtain ⟨q331, e332, hf⟩ := j_bind hf
      refine x_callV (As := [.int v327, .int v329]) (rest := []) C dL_law_891 (m_X11_parts (l := l) (E := E) (d := d - 1) (by omega) e332) km_X11_parts lk_L_108 kv_X11_parts (ci := 8) rfl e342 rfl (by omega) (Nat.le_of_ble_eq_true rfl) (j_le_of (q_X11_parts e332)) (Or.inr (q_X11_parts e332)) ?_
      refine x_aload_n (v := a2) C dL_law_894 rfl ?_
      refine x_aload_n (v := a0) C dL_law_895 rfl ?_
      refine x_iload (v := z) C dL_law_896 rfl ?_
      refine x_iconst C dL_law_898 ki_1 ?_
      refine x_iadd C dL_law_899 ?_
      obtain ⟨v333, e334, hf⟩ := j_bind hf
      refine x_iald C dL_law_900 e334 ?_
      refine x_aload_n (v := a0) C dL_law_901 rfl ?_
      refine x_iload (v := z) C dL_law_902 rfl ?_
      refine x_iconst C dL_law_904 ki_2 ?_
      refine x_iadd C dL_law_905 ?_
      obtain ⟨v335, e336, hf⟩ := j_bind hf
      refine x_iald C dL_law_906 e336 ?_
      obtain ⟨u339, e340, hf⟩ := j_bind hf
      obtain ⟨q337, e338, hf⟩ := j_bind hf
      refine x_callV (As := [.int v333, .int v335]) (rest := [.int q331.1]) C dL_law_907 (m_X12_parts (l := l) (E := E) (d := d - 1) (by omega) e338) km_X12_parts lk_L_111 kv_X12_parts (ci := 9) rfl e340 rfl (by omega) (Nat.le_of_ble_eq_true rfl) (j_le_of (q_X12_parts e338)) (Or.inr (q_X12_parts e338)) ?_
      refine x_icmp_eq (tgt := 1333) C dL_law_910 (by decide) (fun c591 => ?_) (fun c591 => ?_)
      · have hf := j_ifp hf c591
        refine x_iinc (v := z) C dL_law_1333 rfl ki_6 (by decide) ?_
        refine x_goto (tgt := 23) C dL_law_1336 (by decide) ?_
        obtain ⟨rfl, rfl⟩ := j_inj2 hf
        exact x_locr hk rfl
      · have hf := j_ifn hf c591
        refine x_iconst C dL_law_913 ki_0 ?_
        obtain ⟨rfl, rfl⟩ := j_inj2 hf
        obtain ⟨rfl, rfl⟩ := hk
        exact x_zret C hret (Or.inl rfl) dL_law_914
    have hf := j_ifn hf c590
    by_cases c592 : v13 &&& (31 : Int32) = (19 : Int32)
    · have hf := j_ifp hf c592
      refine x_table C dL_law_40 915 (by rw [c592]; decide) (875) (by rw [c592]; rfl) (by decide) ?_
      refine x_aload_n (v := a1) C dL_law_915 rfl ?_
      refine x_aload_n (v := a0) C dL_law_916 rfl ?_
      refine x_iload (v := z) C dL_law_917 rfl ?_
      refine x_iconst C dL_law_919 ki_1 ?_
      refine x_iadd C dL_law_920 ?_
      obtain ⟨v343, e344, hf⟩ := j_bind hf
      refine x_iald C dL_law_921 e344 ?_
      refine x_aload_n (v := a0) C dL_law_922 rfl ?_
      refine x_iload (v := z) C dL_law_923 rfl ?_
      refine x_iconst C dL_law_925 ki_2 ?_
      refine x_iadd C dL_law_926 ?_
      obtain ⟨v345, e346, hf⟩ := j_bind hf
      refine x_iald C dL_law_927 e346 ?_
      refine x_aload_n (v := a0) C dL_law_928 rfl ?_
      refine x_iload (v := z) C dL_law_929 rfl ?_
      refine x_iconst C dL_law_931 ki_3 ?_
      refine x_iadd C dL_law_932 ?_
      obtain ⟨v347, e348, hf⟩ := j_bind hf
      refine x_iald C dL_law_933 e348 ?_
      refine x_aload_n (v := a0) C dL_law_934 rfl ?_
      refine x_iload (v := z) C dL_law_935 rfl ?_
      refine x_iconst C dL_law_937 ki_4 ?_
      refine x_iadd C dL_law_938 ?_
      obtain ⟨v349, e350, hf⟩ := j_bind hf
      refine x_iald C dL_law_939 e350 ?_
      obtain ⟨u365, e366, hf⟩ := j_bind hf
      obtain ⟨q351, e352, hf⟩ := j_bind hf
      have hle : j_le q351.2 hF := by
        obtain ⟨v353, e354, hf⟩ := j_bind hf
        obtain ⟨v355, e356, hf⟩ := j_bind hf
        obtain ⟨v357, e358, hf⟩ := j_bind hf
        obtain ⟨v359, e360, hf⟩ := j_bind hf
        obtain ⟨u363, e364, hf⟩ := j_bind hf
        obtain ⟨q361, e362, hf⟩ := j_bind hf
        refine j_le_trans (j_le_of ((q_X12_table e362))) ?_
        rcases j_ite hf with hf | hf
        ·
          obtain ⟨rfl, rfl⟩ := j_inj2 hf
          exact hleF
        ·
          obtain ⟨rfl, rfl⟩ := j_inj2 hf
          exact hleF
      refine x_callV (As := [.int v343, .int v345, .int v347, .int v349]) (rest := []) C dL_law_940 (m_X11_table (l := l) (E := E) (d := d - 1) (by omega) e352) km_X11_table lk_L_112 kv_X11_table (ci := 8) rfl e366 rfl (by omega) (Nat.le_of_ble_eq_true rfl) (n_X11_table e352) (Or.inl hle) ?_
      refine x_aload_n (v := a2) C dL_law_943 rfl ?_
      refine x_aload_n (v := a0) C dL_law_944 rfl ?_
      refine x_iload (v := z) C dL_law_945 rfl ?_
      refine x_iconst C dL_law_947 ki_1 ?_
      refine x_iadd C dL_law_948 ?_
      obtain ⟨v353, e354, hf⟩ := j_bind hf
      refine x_iald C dL_law_949 e354 ?_
      refine x_aload_n (v := a0) C dL_law_950 rfl ?_
      refine x_iload (v := z) C dL_law_951 rfl ?_
      refine x_iconst C dL_law_953 ki_2 ?_
      refine x_iadd C dL_law_954 ?_
      obtain ⟨v355, e356, hf⟩ := j_bind hf
      refine x_iald C dL_law_955 e356 ?_
      refine x_aload_n (v := a0) C dL_law_956 rfl ?_
      refine x_iload (v := z) C dL_law_957 rfl ?_
      refine x_iconst C dL_law_959 ki_3 ?_
      refine x_iadd C dL_law_960 ?_
      obtain ⟨v357, e358, hf⟩ := j_bind hf
      refine x_iald C dL_law_961 e358 ?_
      refine x_aload_n (v := a0) C dL_law_962 rfl ?_
      refine x_iload (v := z) C dL_law_963 rfl ?_
      refine x_iconst C dL_law_965 ki_4 ?_
      refine x_iadd C dL_law_966 ?_
      obtain ⟨v359, e360, hf⟩ := j_bind hf
      refine x_iald C dL_law_967 e360 ?_
      obtain ⟨u363, e364, hf⟩ := j_bind hf
      obtain ⟨q361, e362, hf⟩ := j_bind hf
      refine x_callV (As := [.int v353, .int v355, .int v357, .int v359]) (rest := [.int q351.1]) C dL_law_968 (m_X12_table (l := l) (E := E) (d := d - 1) (by omega) e362) km_X12_table lk_L_116 kv_X12_table (ci := 9) rfl e364 rfl (by omega) (Nat.le_of_ble_eq_true rfl) (j_le_of (q_X12_table e362)) (Or.inr (q_X12_table e362)) ?_
      refine x_icmp_eq (tgt := 1333) C dL_law_971 (by decide) (fun c593 => ?_) (fun c593 => ?_)
      · have hf := j_ifp hf c593
        refine x_iinc (v := z) C dL_law_1333 rfl ki_6 (by decide) ?_
        refine x_goto (tgt := 23) C dL_law_1336 (by decide) ?_
        obtain ⟨rfl, rfl⟩ := j_inj2 hf
        exact x_locr hk rfl
      · have hf := j_ifn hf c593
        refine x_iconst C dL_law_974 ki_0 ?_
        obtain ⟨rfl, rfl⟩ := j_inj2 hf
        obtain ⟨rfl, rfl⟩ := hk
        exact x_zret C hret (Or.inl rfl) dL_law_975
    have hf := j_ifn hf c592
    by_cases c594 : v13 &&& (31 : Int32) = (20 : Int32)
    · have hf := j_ifp hf c594
      refine x_table C dL_law_40 976 (by rw [c594]; decide) (936) (by rw [c594]; rfl) (by decide) ?_
      refine x_aload_n (v := a1) C dL_law_976 rfl ?_
      refine x_aload_n (v := a0) C dL_law_977 rfl ?_
      refine x_iload (v := z) C dL_law_978 rfl ?_
      refine x_iconst C dL_law_980 ki_1 ?_
      refine x_iadd C dL_law_981 ?_
      obtain ⟨v367, e368, hf⟩ := j_bind hf
      refine x_iald C dL_law_982 e368 ?_
      refine x_aload_n (v := a0) C dL_law_983 rfl ?_
      refine x_iload (v := z) C dL_law_984 rfl ?_
      refine x_iconst C dL_law_986 ki_2 ?_
      refine x_iadd C dL_law_987 ?_
      obtain ⟨v369, e370, hf⟩ := j_bind hf
      refine x_iald C dL_law_988 e370 ?_
      refine x_aload_n (v := a0) C dL_law_989 rfl ?_
      refine x_iload (v := z) C dL_law_990 rfl ?_
      refine x_iconst C dL_law_992 ki_3 ?_
      refine x_iadd C dL_law_993 ?_
      obtain ⟨v371, e372, hf⟩ := j_bind hf
      refine x_iald C dL_law_994 e372 ?_
      obtain ⟨u385, e386, hf⟩ := j_bind hf
      obtain ⟨q373, e374, hf⟩ := j_bind hf
      have hle : j_le q373.2 hF := by
        obtain ⟨v375, e376, hf⟩ := j_bind hf
        obtain ⟨v377, e378, hf⟩ := j_bind hf
        obtain ⟨v379, e380, hf⟩ := j_bind hf
        obtain ⟨u383, e384, hf⟩ := j_bind hf
        obtain ⟨q381, e382, hf⟩ := j_bind hf
        refine j_le_trans (j_le_of ((q_X12_polynomial e382))) ?_
        rcases j_ite hf with hf | hf
        ·
          obtain ⟨rfl, rfl⟩ := j_inj2 hf
          exact hleF
        ·
          obtain ⟨rfl, rfl⟩ := j_inj2 hf
          exact hleF
      refine x_callV (As := [.int v367, .int v369, .int v371]) (rest := []) C dL_law_995 (m_X11_polynomial (l := l) (E := E) (d := d - 1) (by omega) e374) km_X11_polynomial lk_L_117 kv_X11_polynomial (ci := 8) rfl e386 rfl (by omega) (Nat.le_of_ble_eq_true rfl) (n_X11_polynomial e374) (Or.inl hle) ?_
      refine x_aload_n (v := a2) C dL_law_998 rfl ?_
      refine x_aload_n (v := a0) C dL_law_999 rfl ?_
      refine x_iload (v := z) C dL_law_1000 rfl ?_
      refine x_iconst C dL_law_1002 ki_1 ?_
      refine x_iadd C dL_law_1003 ?_
      obtain ⟨v375, e376, hf⟩ := j_bind hf
      refine x_iald C dL_law_1004 e376 ?_
      refine x_aload_n (v := a0) C dL_law_1005 rfl ?_
      refine x_iload (v := z) C dL_law_1006 rfl ?_
      refine x_iconst C dL_law_1008 ki_2 ?_
      refine x_iadd C dL_law_1009 ?_
      obtain ⟨v377, e378, hf⟩ := j_bind hf
      refine x_iald C dL_law_1010 e378 ?_
      refine x_aload_n (v := a0) C dL_law_1011 rfl ?_
      refine x_iload (v := z) C dL_law_1012 rfl ?_
      refine x_iconst C dL_law_1014 ki_3 ?_
      refine x_iadd C dL_law_1015 ?_
      obtain ⟨v379, e380, hf⟩ := j_bind hf
      refine x_iald C dL_law_1016 e380 ?_
      obtain ⟨u383, e384, hf⟩ := j_bind hf
      obtain ⟨q381, e382, hf⟩ := j_bind hf
      refine x_callV (As := [.int v375, .int v377, .int v379]) (rest := [.int q373.1]) C dL_law_1017 (m_X12_polynomial (l := l) (E := E) (d := d - 1) (by omega) e382) km_X12_polynomial lk_L_120 kv_X12_polynomial (ci := 9) rfl e384 rfl (by omega) (Nat.le_of_ble_eq_true rfl) (j_le_of (q_X12_polynomial e382)) (Or.inr (q_X12_polynomial e382)) ?_
      refine x_icmp_eq (tgt := 1333) C dL_law_1020 (by decide) (fun c595 => ?_) (fun c595 => ?_)
      · have hf := j_ifp hf c595
        refine x_iinc (v := z) C dL_law_1333 rfl ki_6 (by decide) ?_
        refine x_goto (tgt := 23) C dL_law_1336 (by decide) ?_
        obtain ⟨rfl, rfl⟩ := j_inj2 hf
        exact x_locr hk rfl
      · have hf := j_ifn hf c595
        refine x_iconst C dL_law_1023 ki_0 ?_
        obtain ⟨rfl, rfl⟩ := j_inj2 hf
        obtain ⟨rfl, rfl⟩ := hk
        exact x_zret C hret (Or.inl rfl) dL_law_1024
    have hf := j_ifn hf c594
    by_cases c596 : v13 &&& (31 : Int32) = (21 : Int32)
    · have hf := j_ifp hf c596
      refine x_table C dL_law_40 1025 (by rw [c596]; decide) (985) (by rw [c596]; rfl) (by decide) ?_
      refine x_aload_n (v := a1) C dL_law_1025 rfl ?_
      refine x_aload_n (v := a0) C dL_law_1026 rfl ?_
      refine x_iload (v := z) C dL_law_1027 rfl ?_
      refine x_iconst C dL_law_1029 ki_1 ?_
      refine x_iadd C dL_law_1030 ?_
      obtain ⟨v387, e388, hf⟩ := j_bind hf
      refine x_iald C dL_law_1031 e388 ?_
      refine x_aload_n (v := a0) C dL_law_1032 rfl ?_
      refine x_iload (v := z) C dL_law_1033 rfl ?_
      refine x_iconst C dL_law_1035 ki_2 ?_
      refine x_iadd C dL_law_1036 ?_
      obtain ⟨v389, e390, hf⟩ := j_bind hf
      refine x_iald C dL_law_1037 e390 ?_
      obtain ⟨u401, e402, hf⟩ := j_bind hf
      obtain ⟨q391, e392, hf⟩ := j_bind hf
      have hle : j_le q391.2 hF := by
        obtain ⟨v393, e394, hf⟩ := j_bind hf
        obtain ⟨v395, e396, hf⟩ := j_bind hf
        obtain ⟨u399, e400, hf⟩ := j_bind hf
        obtain ⟨q397, e398, hf⟩ := j_bind hf
        refine j_le_trans (j_le_of ((q_X12_root e398))) ?_
        rcases j_ite hf with hf | hf
        ·
          obtain ⟨rfl, rfl⟩ := j_inj2 hf
          exact hleF
        ·
          obtain ⟨rfl, rfl⟩ := j_inj2 hf
          exact hleF
      refine x_callV (As := [.int v387, .int v389]) (rest := []) C dL_law_1038 (m_X11_root (l := l) (E := E) (d := d - 1) (by omega) e392) km_X11_root lk_L_121 kv_X11_root (ci := 8) rfl e402 rfl (by omega) (Nat.le_of_ble_eq_true rfl) (n_X11_root e392) (Or.inl hle) ?_
      refine x_aload_n (v := a2) C dL_law_1041 rfl ?_
      refine x_aload_n (v := a0) C dL_law_1042 rfl ?_
      refine x_iload (v := z) C dL_law_1043 rfl ?_
      refine x_iconst C dL_law_1045 ki_1 ?_
      refine x_iadd C dL_law_1046 ?_
      obtain ⟨v393, e394, hf⟩ := j_bind hf
      refine x_iald C dL_law_1047 e394 ?_
      refine x_aload_n (v := a0) C dL_law_1048 rfl ?_
      refine x_iload (v := z) C dL_law_1049 rfl ?_
      refine x_iconst C dL_law_1051 ki_2 ?_
      refine x_iadd C dL_law_1052 ?_
      obtain ⟨v395, e396, hf⟩ := j_bind hf
      refine x_iald C dL_law_1053 e396 ?_
      obtain ⟨u399, e400, hf⟩ := j_bind hf
      obtain ⟨q397, e398, hf⟩ := j_bind hf
      refine x_callV (As := [.int v393, .int v395]) (rest := [.int q391.1]) C dL_law_1054 (m_X12_root (l := l) (E := E) (d := d - 1) (by omega) e398) km_X12_root lk_L_124 kv_X12_root (ci := 9) rfl e400 rfl (by omega) (Nat.le_of_ble_eq_true rfl) (j_le_of (q_X12_root e398)) (Or.inr (q_X12_root e398)) ?_
      refine x_icmp_eq (tgt := 1333) C dL_law_1057 (by decide) (fun c597 => ?_) (fun c597 => ?_)
      · have hf := j_ifp hf c597
        refine x_iinc (v := z) C dL_law_1333 rfl ki_6 (by decide) ?_
        refine x_goto (tgt := 23) C dL_law_1336 (by decide) ?_
        obtain ⟨rfl, rfl⟩ := j_inj2 hf
        exact x_locr hk rfl
      · have hf := j_ifn hf c597
        refine x_iconst C dL_law_1060 ki_0 ?_
        obtain ⟨rfl, rfl⟩ := j_inj2 hf
        obtain ⟨rfl, rfl⟩ := hk
        exact x_zret C hret (Or.inl rfl) dL_law_1061
    have hf := j_ifn hf c596
    by_cases c598 : v13 &&& (31 : Int32) = (22 : Int32)
    · have hf := j_ifp hf c598
      refine x_table C dL_law_40 1062 (by rw [c598]; decide) (1022) (by rw [c598]; rfl) (by decide) ?_
      refine x_aload_n (v := a1) C dL_law_1062 rfl ?_
      refine x_aload_n (v := a0) C dL_law_1063 rfl ?_
      refine x_iload (v := z) C dL_law_1064 rfl ?_
      refine x_iconst C dL_law_1066 ki_1 ?_
      refine x_iadd C dL_law_1067 ?_
      obtain ⟨v403, e404, hf⟩ := j_bind hf
      refine x_iald C dL_law_1068 e404 ?_
      refine x_aload_n (v := a0) C dL_law_1069 rfl ?_
      refine x_iload (v := z) C dL_law_1070 rfl ?_
      refine x_iconst C dL_law_1072 ki_2 ?_
      refine x_iadd C dL_law_1073 ?_
      obtain ⟨v405, e406, hf⟩ := j_bind hf
      refine x_iald C dL_law_1074 e406 ?_
      refine x_aload_n (v := a0) C dL_law_1075 rfl ?_
      refine x_iload (v := z) C dL_law_1076 rfl ?_
      refine x_iconst C dL_law_1078 ki_3 ?_
      refine x_iadd C dL_law_1079 ?_
      obtain ⟨v407, e408, hf⟩ := j_bind hf
      refine x_iald C dL_law_1080 e408 ?_
      obtain ⟨u421, e422, hf⟩ := j_bind hf
      obtain ⟨q409, e410, hf⟩ := j_bind hf
      have hle : j_le q409.2 hF := by
        obtain ⟨v411, e412, hf⟩ := j_bind hf
        obtain ⟨v413, e414, hf⟩ := j_bind hf
        obtain ⟨v415, e416, hf⟩ := j_bind hf
        obtain ⟨u419, e420, hf⟩ := j_bind hf
        obtain ⟨q417, e418, hf⟩ := j_bind hf
        refine j_le_trans (j_le_of ((q_X12_own e418))) ?_
        rcases j_ite hf with hf | hf
        ·
          obtain ⟨rfl, rfl⟩ := j_inj2 hf
          exact hleF
        ·
          obtain ⟨rfl, rfl⟩ := j_inj2 hf
          exact hleF
      refine x_callV (As := [.int v403, .int v405, .int v407]) (rest := []) C dL_law_1081 (m_X11_own (l := l) (E := E) (d := d - 1) (by omega) e410) km_X11_own lk_L_125 kv_X11_own (ci := 8) rfl e422 rfl (by omega) (Nat.le_of_ble_eq_true rfl) (n_X11_own e410) (Or.inl hle) ?_
      refine x_aload_n (v := a2) C dL_law_1084 rfl ?_
      refine x_aload_n (v := a0) C dL_law_1085 rfl ?_
      refine x_iload (v := z) C dL_law_1086 rfl ?_
      refine x_iconst C dL_law_1088 ki_1 ?_
      refine x_iadd C dL_law_1089 ?_
      obtain ⟨v411, e412, hf⟩ := j_bind hf
      refine x_iald C dL_law_1090 e412 ?_
      refine x_aload_n (v := a0) C dL_law_1091 rfl ?_
      refine x_iload (v := z) C dL_law_1092 rfl ?_
      refine x_iconst C dL_law_1094 ki_2 ?_
      refine x_iadd C dL_law_1095 ?_
      obtain ⟨v413, e414, hf⟩ := j_bind hf
      refine x_iald C dL_law_1096 e414 ?_
      refine x_aload_n (v := a0) C dL_law_1097 rfl ?_
      refine x_iload (v := z) C dL_law_1098 rfl ?_
      refine x_iconst C dL_law_1100 ki_3 ?_
      refine x_iadd C dL_law_1101 ?_
      obtain ⟨v415, e416, hf⟩ := j_bind hf
      refine x_iald C dL_law_1102 e416 ?_
      obtain ⟨u419, e420, hf⟩ := j_bind hf
      obtain ⟨q417, e418, hf⟩ := j_bind hf
      refine x_callV (As := [.int v411, .int v413, .int v415]) (rest := [.int q409.1]) C dL_law_1103 (m_X12_own (l := l) (E := E) (d := d - 1) (by omega) e418) km_X12_own lk_L_128 kv_X12_own (ci := 9) rfl e420 rfl (by omega) (Nat.le_of_ble_eq_true rfl) (j_le_of (q_X12_own e418)) (Or.inr (q_X12_own e418)) ?_
      refine x_icmp_eq (tgt := 1333) C dL_law_1106 (by decide) (fun c599 => ?_) (fun c599 => ?_)
      · have hf := j_ifp hf c599
        refine x_iinc (v := z) C dL_law_1333 rfl ki_6 (by decide) ?_
        refine x_goto (tgt := 23) C dL_law_1336 (by decide) ?_
        obtain ⟨rfl, rfl⟩ := j_inj2 hf
        exact x_locr hk rfl
      · have hf := j_ifn hf c599
        refine x_iconst C dL_law_1109 ki_0 ?_
        obtain ⟨rfl, rfl⟩ := j_inj2 hf
        obtain ⟨rfl, rfl⟩ := hk
        exact x_zret C hret (Or.inl rfl) dL_law_1110
    have hf := j_ifn hf c598
    by_cases c600 : v13 &&& (31 : Int32) = (23 : Int32)
    · have hf := j_ifp hf c600
      refine x_table C dL_law_40 1111 (by rw [c600]; decide) (1071) (by rw [c600]; rfl) (by decide) ?_
      refine x_aload_n (v := a1) C dL_law_1111 rfl ?_
      refine x_aload_n (v := a0) C dL_law_1112 rfl ?_
      refine x_iload (v := z) C dL_law_1113 rfl ?_
      refine x_iconst C dL_law_1115 ki_1 ?_
      refine x_iadd C dL_law_1116 ?_
      obtain ⟨v423, e424, hf⟩ := j_bind hf
      refine x_iald C dL_law_1117 e424 ?_
      refine x_aload_n (v := a0) C dL_law_1118 rfl ?_
      refine x_iload (v := z) C dL_law_1119 rfl ?_
      refine x_iconst C dL_law_1121 ki_2 ?_
      refine x_iadd C dL_law_1122 ?_
      obtain ⟨v425, e426, hf⟩ := j_bind hf
      refine x_iald C dL_law_1123 e426 ?_
      refine x_aload_n (v := a0) C dL_law_1124 rfl ?_
      refine x_iload (v := z) C dL_law_1125 rfl ?_
      refine x_iconst C dL_law_1127 ki_3 ?_
      refine x_iadd C dL_law_1128 ?_
      obtain ⟨v427, e428, hf⟩ := j_bind hf
      refine x_iald C dL_law_1129 e428 ?_
      refine x_if_eq (tgt := 1137) C dL_law_1130 (by decide) (fun c601 => ?_) (fun c601 => ?_)
      · have hf := j_ifp hf c601
        refine x_iconst C dL_law_1137 ki_0 ?_
        refine x_aload_n (v := a0) C dL_law_1138 rfl ?_
        refine x_iload (v := z) C dL_law_1139 rfl ?_
        refine x_iconst C dL_law_1141 ki_4 ?_
        refine x_iadd C dL_law_1142 ?_
        obtain ⟨v429, e430, hf⟩ := j_bind hf
        refine x_iald C dL_law_1143 e430 ?_
        obtain ⟨u451, e452, hf⟩ := j_bind hf
        obtain ⟨q431, e432, hf⟩ := j_bind hf
        have hle : j_le q431.2 hF := by
          obtain ⟨v433, e434, hf⟩ := j_bind hf
          obtain ⟨v435, e436, hf⟩ := j_bind hf
          obtain ⟨v437, e438, hf⟩ := j_bind hf
          rcases j_ite hf with hf | hf
          ·
            obtain ⟨v439, e440, hf⟩ := j_bind hf
            obtain ⟨u443, e444, hf⟩ := j_bind hf
            obtain ⟨q441, e442, hf⟩ := j_bind hf
            refine j_le_trans (j_le_of ((q_X12_put e442))) ?_
            rcases j_ite hf with hf | hf
            ·
              obtain ⟨rfl, rfl⟩ := j_inj2 hf
              exact hleF
            ·
              obtain ⟨rfl, rfl⟩ := j_inj2 hf
              exact hleF
          ·
            obtain ⟨v445, e446, hf⟩ := j_bind hf
            obtain ⟨u449, e450, hf⟩ := j_bind hf
            obtain ⟨q447, e448, hf⟩ := j_bind hf
            refine j_le_trans (j_le_of ((q_X12_put e448))) ?_
            rcases j_ite hf with hf | hf
            ·
              obtain ⟨rfl, rfl⟩ := j_inj2 hf
              exact hleF
            ·
              obtain ⟨rfl, rfl⟩ := j_inj2 hf
              exact hleF
        refine x_callV (As := [.int v423, .int v425, .int (0 : Int32), .int v429]) (rest := []) C dL_law_1144 (m_X11_put (l := l) (E := E) (d := d - 1) (by omega) e432) km_X11_put lk_L_129 kv_X11_put (ci := 8) rfl e452 rfl (by omega) (Nat.le_of_ble_eq_true rfl) (n_X11_put e432) (Or.inl hle) ?_
        refine x_aload_n (v := a2) C dL_law_1147 rfl ?_
        refine x_aload_n (v := a0) C dL_law_1148 rfl ?_
        refine x_iload (v := z) C dL_law_1149 rfl ?_
        refine x_iconst C dL_law_1151 ki_1 ?_
        refine x_iadd C dL_law_1152 ?_
        obtain ⟨v433, e434, hf⟩ := j_bind hf
        refine x_iald C dL_law_1153 e434 ?_
        refine x_aload_n (v := a0) C dL_law_1154 rfl ?_
        refine x_iload (v := z) C dL_law_1155 rfl ?_
        refine x_iconst C dL_law_1157 ki_2 ?_
        refine x_iadd C dL_law_1158 ?_
        obtain ⟨v435, e436, hf⟩ := j_bind hf
        refine x_iald C dL_law_1159 e436 ?_
        refine x_aload_n (v := a0) C dL_law_1160 rfl ?_
        refine x_iload (v := z) C dL_law_1161 rfl ?_
        refine x_iconst C dL_law_1163 ki_3 ?_
        refine x_iadd C dL_law_1164 ?_
        obtain ⟨v437, e438, hf⟩ := j_bind hf
        refine x_iald C dL_law_1165 e438 ?_
        refine x_if_eq (tgt := 1173) C dL_law_1166 (by decide) (fun c602 => ?_) (fun c602 => ?_)
        · have hf := j_ifp hf c602
          refine x_iconst C dL_law_1173 ki_0 ?_
          refine x_aload_n (v := a0) C dL_law_1174 rfl ?_
          refine x_iload (v := z) C dL_law_1175 rfl ?_
          refine x_iconst C dL_law_1177 ki_4 ?_
          refine x_iadd C dL_law_1178 ?_
          obtain ⟨v439, e440, hf⟩ := j_bind hf
          refine x_iald C dL_law_1179 e440 ?_
          obtain ⟨u443, e444, hf⟩ := j_bind hf
          obtain ⟨q441, e442, hf⟩ := j_bind hf
          refine x_callV (As := [.int v433, .int v435, .int (0 : Int32), .int v439]) (rest := [.int q431.1]) C dL_law_1180 (m_X12_put (l := l) (E := E) (d := d - 1) (by omega) e442) km_X12_put lk_L_133 kv_X12_put (ci := 9) rfl e444 rfl (by omega) (Nat.le_of_ble_eq_true rfl) (j_le_of (q_X12_put e442)) (Or.inr (q_X12_put e442)) ?_
          refine x_icmp_eq (tgt := 1333) C dL_law_1183 (by decide) (fun c603 => ?_) (fun c603 => ?_)
          · have hf := j_ifp hf c603
            refine x_iinc (v := z) C dL_law_1333 rfl ki_6 (by decide) ?_
            refine x_goto (tgt := 23) C dL_law_1336 (by decide) ?_
            obtain ⟨rfl, rfl⟩ := j_inj2 hf
            exact x_locr hk rfl
          · have hf := j_ifn hf c603
            refine x_iconst C dL_law_1186 ki_0 ?_
            obtain ⟨rfl, rfl⟩ := j_inj2 hf
            obtain ⟨rfl, rfl⟩ := hk
            exact x_zret C hret (Or.inl rfl) dL_law_1187
        · have hf := j_ifn hf c602
          refine x_iconst C dL_law_1169 ki_1 ?_
          refine x_goto (tgt := 1174) C dL_law_1170 (by decide) ?_
          refine x_aload_n (v := a0) C dL_law_1174 rfl ?_
          refine x_iload (v := z) C dL_law_1175 rfl ?_
          refine x_iconst C dL_law_1177 ki_4 ?_
          refine x_iadd C dL_law_1178 ?_
          obtain ⟨v445, e446, hf⟩ := j_bind hf
          refine x_iald C dL_law_1179 e446 ?_
          obtain ⟨u449, e450, hf⟩ := j_bind hf
          obtain ⟨q447, e448, hf⟩ := j_bind hf
          refine x_callV (As := [.int v433, .int v435, .int (1 : Int32), .int v445]) (rest := [.int q431.1]) C dL_law_1180 (m_X12_put (l := l) (E := E) (d := d - 1) (by omega) e448) km_X12_put lk_L_133 kv_X12_put (ci := 9) rfl e450 rfl (by omega) (Nat.le_of_ble_eq_true rfl) (j_le_of (q_X12_put e448)) (Or.inr (q_X12_put e448)) ?_
          refine x_icmp_eq (tgt := 1333) C dL_law_1183 (by decide) (fun c604 => ?_) (fun c604 => ?_)
          · have hf := j_ifp hf c604
            refine x_iinc (v := z) C dL_law_1333 rfl ki_6 (by decide) ?_
            refine x_goto (tgt := 23) C dL_law_1336 (by decide) ?_
            obtain ⟨rfl, rfl⟩ := j_inj2 hf
            exact x_locr hk rfl
          · have hf := j_ifn hf c604
            refine x_iconst C dL_law_1186 ki_0 ?_
            obtain ⟨rfl, rfl⟩ := j_inj2 hf
            obtain ⟨rfl, rfl⟩ := hk
            exact x_zret C hret (Or.inl rfl) dL_law_1187
      · have hf := j_ifn hf c601
        refine x_iconst C dL_law_1133 ki_1 ?_
        refine x_goto (tgt := 1138) C dL_law_1134 (by decide) ?_
        refine x_aload_n (v := a0) C dL_law_1138 rfl ?_
        refine x_iload (v := z) C dL_law_1139 rfl ?_
        refine x_iconst C dL_law_1141 ki_4 ?_
        refine x_iadd C dL_law_1142 ?_
        obtain ⟨v453, e454, hf⟩ := j_bind hf
        refine x_iald C dL_law_1143 e454 ?_
        obtain ⟨u475, e476, hf⟩ := j_bind hf
        obtain ⟨q455, e456, hf⟩ := j_bind hf
        have hle : j_le q455.2 hF := by
          obtain ⟨v457, e458, hf⟩ := j_bind hf
          obtain ⟨v459, e460, hf⟩ := j_bind hf
          obtain ⟨v461, e462, hf⟩ := j_bind hf
          rcases j_ite hf with hf | hf
          ·
            obtain ⟨v463, e464, hf⟩ := j_bind hf
            obtain ⟨u467, e468, hf⟩ := j_bind hf
            obtain ⟨q465, e466, hf⟩ := j_bind hf
            refine j_le_trans (j_le_of ((q_X12_put e466))) ?_
            rcases j_ite hf with hf | hf
            ·
              obtain ⟨rfl, rfl⟩ := j_inj2 hf
              exact hleF
            ·
              obtain ⟨rfl, rfl⟩ := j_inj2 hf
              exact hleF
          ·
            obtain ⟨v469, e470, hf⟩ := j_bind hf
            obtain ⟨u473, e474, hf⟩ := j_bind hf
            obtain ⟨q471, e472, hf⟩ := j_bind hf
            refine j_le_trans (j_le_of ((q_X12_put e472))) ?_
            rcases j_ite hf with hf | hf
            ·
              obtain ⟨rfl, rfl⟩ := j_inj2 hf
              exact hleF
            ·
              obtain ⟨rfl, rfl⟩ := j_inj2 hf
              exact hleF
        refine x_callV (As := [.int v423, .int v425, .int (1 : Int32), .int v453]) (rest := []) C dL_law_1144 (m_X11_put (l := l) (E := E) (d := d - 1) (by omega) e456) km_X11_put lk_L_129 kv_X11_put (ci := 8) rfl e476 rfl (by omega) (Nat.le_of_ble_eq_true rfl) (n_X11_put e456) (Or.inl hle) ?_
        refine x_aload_n (v := a2) C dL_law_1147 rfl ?_
        refine x_aload_n (v := a0) C dL_law_1148 rfl ?_
        refine x_iload (v := z) C dL_law_1149 rfl ?_
        refine x_iconst C dL_law_1151 ki_1 ?_
        refine x_iadd C dL_law_1152 ?_
        obtain ⟨v457, e458, hf⟩ := j_bind hf
        refine x_iald C dL_law_1153 e458 ?_
        refine x_aload_n (v := a0) C dL_law_1154 rfl ?_
        refine x_iload (v := z) C dL_law_1155 rfl ?_
        refine x_iconst C dL_law_1157 ki_2 ?_
        refine x_iadd C dL_law_1158 ?_
        obtain ⟨v459, e460, hf⟩ := j_bind hf
        refine x_iald C dL_law_1159 e460 ?_
        refine x_aload_n (v := a0) C dL_law_1160 rfl ?_
        refine x_iload (v := z) C dL_law_1161 rfl ?_
        refine x_iconst C dL_law_1163 ki_3 ?_
        refine x_iadd C dL_law_1164 ?_
        obtain ⟨v461, e462, hf⟩ := j_bind hf
        refine x_iald C dL_law_1165 e462 ?_
        refine x_if_eq (tgt := 1173) C dL_law_1166 (by decide) (fun c605 => ?_) (fun c605 => ?_)
        · have hf := j_ifp hf c605
          refine x_iconst C dL_law_1173 ki_0 ?_
          refine x_aload_n (v := a0) C dL_law_1174 rfl ?_
          refine x_iload (v := z) C dL_law_1175 rfl ?_
          refine x_iconst C dL_law_1177 ki_4 ?_
          refine x_iadd C dL_law_1178 ?_
          obtain ⟨v463, e464, hf⟩ := j_bind hf
          refine x_iald C dL_law_1179 e464 ?_
          obtain ⟨u467, e468, hf⟩ := j_bind hf
          obtain ⟨q465, e466, hf⟩ := j_bind hf
          refine x_callV (As := [.int v457, .int v459, .int (0 : Int32), .int v463]) (rest := [.int q455.1]) C dL_law_1180 (m_X12_put (l := l) (E := E) (d := d - 1) (by omega) e466) km_X12_put lk_L_133 kv_X12_put (ci := 9) rfl e468 rfl (by omega) (Nat.le_of_ble_eq_true rfl) (j_le_of (q_X12_put e466)) (Or.inr (q_X12_put e466)) ?_
          refine x_icmp_eq (tgt := 1333) C dL_law_1183 (by decide) (fun c606 => ?_) (fun c606 => ?_)
          · have hf := j_ifp hf c606
            refine x_iinc (v := z) C dL_law_1333 rfl ki_6 (by decide) ?_
            refine x_goto (tgt := 23) C dL_law_1336 (by decide) ?_
            obtain ⟨rfl, rfl⟩ := j_inj2 hf
            exact x_locr hk rfl
          · have hf := j_ifn hf c606
            refine x_iconst C dL_law_1186 ki_0 ?_
            obtain ⟨rfl, rfl⟩ := j_inj2 hf
            obtain ⟨rfl, rfl⟩ := hk
            exact x_zret C hret (Or.inl rfl) dL_law_1187
        · have hf := j_ifn hf c605
          refine x_iconst C dL_law_1169 ki_1 ?_
          refine x_goto (tgt := 1174) C dL_law_1170 (by decide) ?_
          refine x_aload_n (v := a0) C dL_law_1174 rfl ?_
          refine x_iload (v := z) C dL_law_1175 rfl ?_
          refine x_iconst C dL_law_1177 ki_4 ?_
          refine x_iadd C dL_law_1178 ?_
          obtain ⟨v469, e470, hf⟩ := j_bind hf
          refine x_iald C dL_law_1179 e470 ?_
          obtain ⟨u473, e474, hf⟩ := j_bind hf
          obtain ⟨q471, e472, hf⟩ := j_bind hf
          refine x_callV (As := [.int v457, .int v459, .int (1 : Int32), .int v469]) (rest := [.int q455.1]) C dL_law_1180 (m_X12_put (l := l) (E := E) (d := d - 1) (by omega) e472) km_X12_put lk_L_133 kv_X12_put (ci := 9) rfl e474 rfl (by omega) (Nat.le_of_ble_eq_true rfl) (j_le_of (q_X12_put e472)) (Or.inr (q_X12_put e472)) ?_
          refine x_icmp_eq (tgt := 1333) C dL_law_1183 (by decide) (fun c607 => ?_) (fun c607 => ?_)
          · have hf := j_ifp hf c607
            refine x_iinc (v := z) C dL_law_1333 rfl ki_6 (by decide) ?_
            refine x_goto (tgt := 23) C dL_law_1336 (by decide) ?_
            obtain ⟨rfl, rfl⟩ := j_inj2 hf
            exact x_locr hk rfl
          · have hf := j_ifn hf c607
            refine x_iconst C dL_law_1186 ki_0 ?_
            obtain ⟨rfl, rfl⟩ := j_inj2 hf
            obtain ⟨rfl, rfl⟩ := hk
            exact x_zret C hret (Or.inl rfl) dL_law_1187
    have hf := j_ifn hf c600
    by_cases c608 : v13 &&& (31 : Int32) = (24 : Int32)
    · have hf := j_ifp hf c608
      refine x_table C dL_law_40 1188 (by rw [c608]; decide) (1148) (by rw [c608]; rfl) (by decide) ?_
      refine x_aload_n (v := a1) C dL_law_1188 rfl ?_
      refine x_aload_n (v := a0) C dL_law_1189 rfl ?_
      refine x_iload (v := z) C dL_law_1190 rfl ?_
      refine x_iconst C dL_law_1192 ki_1 ?_
      refine x_iadd C dL_law_1193 ?_
      obtain ⟨v477, e478, hf⟩ := j_bind hf
      refine x_iald C dL_law_1194 e478 ?_
      refine x_aload_n (v := a0) C dL_law_1195 rfl ?_
      refine x_iload (v := z) C dL_law_1196 rfl ?_
      refine x_iconst C dL_law_1198 ki_2 ?_
      refine x_iadd C dL_law_1199 ?_
      obtain ⟨v479, e480, hf⟩ := j_bind hf
      refine x_iald C dL_law_1200 e480 ?_
      refine x_aload_n (v := a0) C dL_law_1201 rfl ?_
      refine x_iload (v := z) C dL_law_1202 rfl ?_
      refine x_iconst C dL_law_1204 ki_3 ?_
      refine x_iadd C dL_law_1205 ?_
      obtain ⟨v481, e482, hf⟩ := j_bind hf
      refine x_iald C dL_law_1206 e482 ?_
      refine x_aload_n (v := a3) C dL_law_1207 rfl ?_
      obtain ⟨q483, e484, hf⟩ := j_bind hf
      have hle : j_le q483.2 hF := by
        obtain ⟨v485, e486, hf⟩ := j_bind hf
        obtain ⟨v487, e488, hf⟩ := j_bind hf
        obtain ⟨v489, e490, hf⟩ := j_bind hf
        obtain ⟨u499, e500, hf⟩ := j_bind hf
        obtain ⟨q491, e492, hf⟩ := j_bind hf
        refine j_le_trans (j_le_of ((q_X12_row e492))) ?_
        obtain ⟨u497, e498, hf⟩ := j_bind hf
        obtain ⟨q493, e494, hf⟩ := j_bind hf
        refine j_le_trans (j_le_of ((q_X12_thrown e494))) ?_
        rcases j_ite hf with hf | hf
        ·
          rcases j_ite hf with hf | hf
          ·
            obtain ⟨v495, e496, hf⟩ := j_bind hf
            rcases j_ite hf with hf | hf
            ·
              obtain ⟨rfl, rfl⟩ := j_inj2 hf
              exact hleF
            ·
              obtain ⟨rfl, rfl⟩ := j_inj2 hf
              exact hleF
          ·
            obtain ⟨rfl, rfl⟩ := j_inj2 hf
            exact hleF
        ·
          obtain ⟨rfl, rfl⟩ := j_inj2 hf
          exact hleF
      refine x_callSW (As := [.ref a1, .int v477, .int v479, .int v481, .ref a3]) (rest := []) C dL_law_1208 (m_L_row hfl (l := l) (E := E) (d := d - 1) (by omega) e484) kw_L_row lk_L_134 ks_L_row rfl (by omega) (Nat.le_of_ble_eq_true rfl) (n_L_row e484) (Or.inl hle) ?_
      refine x_istore C dL_law_1211 (by decide) ?_
      refine x_aload_n (v := a2) C dL_law_1213 rfl ?_
      refine x_aload_n (v := a0) C dL_law_1214 rfl ?_
      refine x_iload (v := z) C dL_law_1215 rfl ?_
      refine x_iconst C dL_law_1217 ki_1 ?_
      refine x_iadd C dL_law_1218 ?_
      obtain ⟨v485, e486, hf⟩ := j_bind hf
      refine x_iald C dL_law_1219 e486 ?_
      refine x_aload_n (v := a0) C dL_law_1220 rfl ?_
      refine x_iload (v := z) C dL_law_1221 rfl ?_
      refine x_iconst C dL_law_1223 ki_2 ?_
      refine x_iadd C dL_law_1224 ?_
      obtain ⟨v487, e488, hf⟩ := j_bind hf
      refine x_iald C dL_law_1225 e488 ?_
      refine x_aload_n (v := a0) C dL_law_1226 rfl ?_
      refine x_iload (v := z) C dL_law_1227 rfl ?_
      refine x_iconst C dL_law_1229 ki_3 ?_
      refine x_iadd C dL_law_1230 ?_
      obtain ⟨v489, e490, hf⟩ := j_bind hf
      refine x_iald C dL_law_1231 e490 ?_
      obtain ⟨u499, e500, hf⟩ := j_bind hf
      obtain ⟨q491, e492, hf⟩ := j_bind hf
      refine x_callV (As := [.int v485, .int v487, .int v489]) (rest := []) C dL_law_1232 (m_X12_row (l := l) (E := E) (d := d - 1) (by omega) e492) km_X12_row lk_L_137 kv_X12_row (ci := 9) rfl e500 rfl (by omega) (Nat.le_of_ble_eq_true rfl) (j_le_of (q_X12_row e492)) (Or.inr (q_X12_row e492)) ?_
      refine x_lstore C dL_law_1235 (by decide) ?_
      refine x_aload_n (v := a2) C dL_law_1237 rfl ?_
      obtain ⟨u497, e498, hf⟩ := j_bind hf
      obtain ⟨q493, e494, hf⟩ := j_bind hf
      refine x_callV (As := []) (rest := []) C dL_law_1238 (m_X12_thrown (l := l) (E := E) (d := d - 1) (by omega) e494) km_X12_thrown lk_L_60 kv_X12_thrown (ci := 9) rfl e498 rfl (by omega) (Nat.le_of_ble_eq_true rfl) (j_le_of (q_X12_thrown e494)) (Or.inr (q_X12_thrown e494)) ?_
      refine x_iload (v := q483.1) C dL_law_1241 rfl ?_
      refine x_icmp_eq (tgt := 1248) C dL_law_1243 (by decide) (fun c609 => ?_) (fun c609 => ?_)
      · have hf := j_ifp hf c609
        refine x_iload (v := q483.1) C dL_law_1248 rfl ?_
        refine x_if_ne (tgt := 1264) C dL_law_1250 (by decide) (fun c610 => ?_) (fun c610 => ?_)
        · have hf := j_ifn hf c610
          refine x_goto (tgt := 1333) C dL_law_1264 (by decide) ?_
          refine x_iinc (v := z) C dL_law_1333 rfl ki_6 (by decide) ?_
          refine x_goto (tgt := 23) C dL_law_1336 (by decide) ?_
          obtain ⟨rfl, rfl⟩ := j_inj2 hf
          exact x_locr hk rfl
        · have hf := j_ifp hf c610
          refine x_aload_n (v := a3) C dL_law_1253 rfl ?_
          refine x_iconst C dL_law_1254 ki_0 ?_
          obtain ⟨v495, e496, hf⟩ := j_bind hf
          refine x_lald C dL_law_1255 e496 ?_
          refine x_lload (v := q491.1) C dL_law_1256 rfl ?_
          refine x_lcmp C dL_law_1258 ?_
          refine x_if_eq (tgt := 1264) C dL_law_1259 (by decide) (fun c611 => ?_) (fun c611 => ?_)
          · have hf := j_ifp hf c611
            refine x_goto (tgt := 1333) C dL_law_1264 (by decide) ?_
            refine x_iinc (v := z) C dL_law_1333 rfl ki_6 (by decide) ?_
            refine x_goto (tgt := 23) C dL_law_1336 (by decide) ?_
            obtain ⟨rfl, rfl⟩ := j_inj2 hf
            exact x_locr hk rfl
          · have hf := j_ifn hf c611
            refine x_iconst C dL_law_1262 ki_0 ?_
            obtain ⟨rfl, rfl⟩ := j_inj2 hf
            obtain ⟨rfl, rfl⟩ := hk
            exact x_zret C hret (Or.inl rfl) dL_law_1263
      · have hf := j_ifn hf c609
        refine x_iconst C dL_law_1246 ki_0 ?_
        obtain ⟨rfl, rfl⟩ := j_inj2 hf
        obtain ⟨rfl, rfl⟩ := hk
        exact x_zret C hret (Or.inl rfl) dL_law_1247
    have hf := j_ifn hf c608
    by_cases c612 : v13 &&& (31 : Int32) = (25 : Int32)
    · have hf := j_ifp hf c612
      refine x_table C dL_law_40 1267 (by rw [c612]; decide) (1227) (by rw [c612]; rfl) (by decide) ?_
      refine x_aload_n (v := a1) C dL_law_1267 rfl ?_
      obtain ⟨u507, e508, hf⟩ := j_bind hf
      obtain ⟨q501, e502, hf⟩ := j_bind hf
      refine x_callV (As := []) (rest := []) C dL_law_1268 (m_X11_swap (l := l) (E := E) (d := d - 1) (by omega) e502) km_X11_swap lk_L_138 kv_X11_swap (ci := 8) rfl e508 rfl (by omega) (Nat.le_of_ble_eq_true rfl) (j_le_of (q_X11_swap e502)) (Or.inr (q_X11_swap e502)) ?_
      refine x_aload_n (v := a2) C dL_law_1271 rfl ?_
      obtain ⟨u505, e506, hf⟩ := j_bind hf
      obtain ⟨q503, e504, hf⟩ := j_bind hf
      refine x_callV (As := []) (rest := [.int q501.1]) C dL_law_1272 (m_X12_swap (l := l) (E := E) (d := d - 1) (by omega) e504) km_X12_swap lk_L_141 kv_X12_swap (ci := 9) rfl e506 rfl (by omega) (Nat.le_of_ble_eq_true rfl) (j_le_of (q_X12_swap e504)) (Or.inr (q_X12_swap e504)) ?_
      refine x_icmp_eq (tgt := 1333) C dL_law_1275 (by decide) (fun c613 => ?_) (fun c613 => ?_)
      · have hf := j_ifp hf c613
        refine x_iinc (v := z) C dL_law_1333 rfl ki_6 (by decide) ?_
        refine x_goto (tgt := 23) C dL_law_1336 (by decide) ?_
        obtain ⟨rfl, rfl⟩ := j_inj2 hf
        exact x_locr hk rfl
      · have hf := j_ifn hf c613
        refine x_iconst C dL_law_1278 ki_0 ?_
        obtain ⟨rfl, rfl⟩ := j_inj2 hf
        obtain ⟨rfl, rfl⟩ := hk
        exact x_zret C hret (Or.inl rfl) dL_law_1279
    have hf := j_ifn hf c612
    by_cases c614 : v13 &&& (31 : Int32) = (26 : Int32)
    · have hf := j_ifp hf c614
      refine x_table C dL_law_40 1280 (by rw [c614]; decide) (1240) (by rw [c614]; rfl) (by decide) ?_
      refine x_aload_n (v := a1) C dL_law_1280 rfl ?_
      refine x_aload_n (v := a0) C dL_law_1281 rfl ?_
      refine x_iload (v := z) C dL_law_1282 rfl ?_
      refine x_iconst C dL_law_1284 ki_1 ?_
      refine x_iadd C dL_law_1285 ?_
      obtain ⟨v509, e510, hf⟩ := j_bind hf
      refine x_iald C dL_law_1286 e510 ?_
      refine x_aload_n (v := a0) C dL_law_1287 rfl ?_
      refine x_iload (v := z) C dL_law_1288 rfl ?_
      refine x_iconst C dL_law_1290 ki_2 ?_
      refine x_iadd C dL_law_1291 ?_
      obtain ⟨v511, e512, hf⟩ := j_bind hf
      refine x_iald C dL_law_1292 e512 ?_
      refine x_if_eq (tgt := 1300) C dL_law_1293 (by decide) (fun c615 => ?_) (fun c615 => ?_)
      · have hf := j_ifp hf c615
        refine x_iconst C dL_law_1300 ki_0 ?_
        obtain ⟨u527, e528, hf⟩ := j_bind hf
        obtain ⟨q513, e514, hf⟩ := j_bind hf
        refine x_callV (As := [.int v509, .int (0 : Int32)]) (rest := []) C dL_law_1301 (m_X11_image (l := l) (E := E) (d := d - 1) (by omega) e514) km_X11_image lk_L_142 kv_X11_image (ci := 8) rfl e528 rfl (by omega) (Nat.le_of_ble_eq_true rfl) (j_le_of (q_X11_image e514)) (Or.inr (q_X11_image e514)) ?_
        refine x_aload_n (v := a2) C dL_law_1304 rfl ?_
        refine x_aload_n (v := a0) C dL_law_1305 rfl ?_
        refine x_iload (v := z) C dL_law_1306 rfl ?_
        refine x_iconst C dL_law_1308 ki_1 ?_
        refine x_iadd C dL_law_1309 ?_
        obtain ⟨v515, e516, hf⟩ := j_bind hf
        refine x_iald C dL_law_1310 e516 ?_
        refine x_aload_n (v := a0) C dL_law_1311 rfl ?_
        refine x_iload (v := z) C dL_law_1312 rfl ?_
        refine x_iconst C dL_law_1314 ki_2 ?_
        refine x_iadd C dL_law_1315 ?_
        obtain ⟨v517, e518, hf⟩ := j_bind hf
        refine x_iald C dL_law_1316 e518 ?_
        refine x_if_eq (tgt := 1324) C dL_law_1317 (by decide) (fun c616 => ?_) (fun c616 => ?_)
        · have hf := j_ifp hf c616
          refine x_iconst C dL_law_1324 ki_0 ?_
          obtain ⟨u521, e522, hf⟩ := j_bind hf
          obtain ⟨q519, e520, hf⟩ := j_bind hf
          refine x_callV (As := [.int v515, .int (0 : Int32)]) (rest := [.int q513.1]) C dL_law_1325 (m_X12_image (l := l) (E := E) (d := d - 1) (by omega) e520) km_X12_image lk_L_146 kv_X12_image (ci := 9) rfl e522 rfl (by omega) (Nat.le_of_ble_eq_true rfl) (j_le_of (q_X12_image e520)) (Or.inr (q_X12_image e520)) ?_
          refine x_icmp_eq (tgt := 1333) C dL_law_1328 (by decide) (fun c617 => ?_) (fun c617 => ?_)
          · have hf := j_ifp hf c617
            refine x_iinc (v := z) C dL_law_1333 rfl ki_6 (by decide) ?_
            refine x_goto (tgt := 23) C dL_law_1336 (by decide) ?_
            obtain ⟨rfl, rfl⟩ := j_inj2 hf
            exact x_locr hk rfl
          · have hf := j_ifn hf c617
            refine x_iconst C dL_law_1331 ki_0 ?_
            obtain ⟨rfl, rfl⟩ := j_inj2 hf
            obtain ⟨rfl, rfl⟩ := hk
            exact x_zret C hret (Or.inl rfl) dL_law_1332
        · have hf := j_ifn hf c616
          refine x_iconst C dL_law_1320 ki_1 ?_
          refine x_goto (tgt := 1325) C dL_law_1321 (by decide) ?_
          obtain ⟨u525, e526, hf⟩ := j_bind hf
          obtain ⟨q523, e524, hf⟩ := j_bind hf
          refine x_callV (As := [.int v515, .int (1 : Int32)]) (rest := [.int q513.1]) C dL_law_1325 (m_X12_image (l := l) (E := E) (d := d - 1) (by omega) e524) km_X12_image lk_L_146 kv_X12_image (ci := 9) rfl e526 rfl (by omega) (Nat.le_of_ble_eq_true rfl) (j_le_of (q_X12_image e524)) (Or.inr (q_X12_image e524)) ?_
          refine x_icmp_eq (tgt := 1333) C dL_law_1328 (by decide) (fun c618 => ?_) (fun c618 => ?_)
          · have hf := j_ifp hf c618
            refine x_iinc (v := z) C dL_law_1333 rfl ki_6 (by decide) ?_
            refine x_goto (tgt := 23) C dL_law_1336 (by decide) ?_
            obtain ⟨rfl, rfl⟩ := j_inj2 hf
            exact x_locr hk rfl
          · have hf := j_ifn hf c618
            refine x_iconst C dL_law_1331 ki_0 ?_
            obtain ⟨rfl, rfl⟩ := j_inj2 hf
            obtain ⟨rfl, rfl⟩ := hk
            exact x_zret C hret (Or.inl rfl) dL_law_1332
      · have hf := j_ifn hf c615
        refine x_iconst C dL_law_1296 ki_1 ?_
        refine x_goto (tgt := 1301) C dL_law_1297 (by decide) ?_
        obtain ⟨u543, e544, hf⟩ := j_bind hf
        obtain ⟨q529, e530, hf⟩ := j_bind hf
        refine x_callV (As := [.int v509, .int (1 : Int32)]) (rest := []) C dL_law_1301 (m_X11_image (l := l) (E := E) (d := d - 1) (by omega) e530) km_X11_image lk_L_142 kv_X11_image (ci := 8) rfl e544 rfl (by omega) (Nat.le_of_ble_eq_true rfl) (j_le_of (q_X11_image e530)) (Or.inr (q_X11_image e530)) ?_
        refine x_aload_n (v := a2) C dL_law_1304 rfl ?_
        refine x_aload_n (v := a0) C dL_law_1305 rfl ?_
        refine x_iload (v := z) C dL_law_1306 rfl ?_
        refine x_iconst C dL_law_1308 ki_1 ?_
        refine x_iadd C dL_law_1309 ?_
        obtain ⟨v531, e532, hf⟩ := j_bind hf
        refine x_iald C dL_law_1310 e532 ?_
        refine x_aload_n (v := a0) C dL_law_1311 rfl ?_
        refine x_iload (v := z) C dL_law_1312 rfl ?_
        refine x_iconst C dL_law_1314 ki_2 ?_
        refine x_iadd C dL_law_1315 ?_
        obtain ⟨v533, e534, hf⟩ := j_bind hf
        refine x_iald C dL_law_1316 e534 ?_
        refine x_if_eq (tgt := 1324) C dL_law_1317 (by decide) (fun c619 => ?_) (fun c619 => ?_)
        · have hf := j_ifp hf c619
          refine x_iconst C dL_law_1324 ki_0 ?_
          obtain ⟨u537, e538, hf⟩ := j_bind hf
          obtain ⟨q535, e536, hf⟩ := j_bind hf
          refine x_callV (As := [.int v531, .int (0 : Int32)]) (rest := [.int q529.1]) C dL_law_1325 (m_X12_image (l := l) (E := E) (d := d - 1) (by omega) e536) km_X12_image lk_L_146 kv_X12_image (ci := 9) rfl e538 rfl (by omega) (Nat.le_of_ble_eq_true rfl) (j_le_of (q_X12_image e536)) (Or.inr (q_X12_image e536)) ?_
          refine x_icmp_eq (tgt := 1333) C dL_law_1328 (by decide) (fun c620 => ?_) (fun c620 => ?_)
          · have hf := j_ifp hf c620
            refine x_iinc (v := z) C dL_law_1333 rfl ki_6 (by decide) ?_
            refine x_goto (tgt := 23) C dL_law_1336 (by decide) ?_
            obtain ⟨rfl, rfl⟩ := j_inj2 hf
            exact x_locr hk rfl
          · have hf := j_ifn hf c620
            refine x_iconst C dL_law_1331 ki_0 ?_
            obtain ⟨rfl, rfl⟩ := j_inj2 hf
            obtain ⟨rfl, rfl⟩ := hk
            exact x_zret C hret (Or.inl rfl) dL_law_1332
        · have hf := j_ifn hf c619
          refine x_iconst C dL_law_1320 ki_1 ?_
          refine x_goto (tgt := 1325) C dL_law_1321 (by decide) ?_
          obtain ⟨u541, e542, hf⟩ := j_bind hf
          obtain ⟨q539, e540, hf⟩ := j_bind hf
          refine x_callV (As := [.int v531, .int (1 : Int32)]) (rest := [.int q529.1]) C dL_law_1325 (m_X12_image (l := l) (E := E) (d := d - 1) (by omega) e540) km_X12_image lk_L_146 kv_X12_image (ci := 9) rfl e542 rfl (by omega) (Nat.le_of_ble_eq_true rfl) (j_le_of (q_X12_image e540)) (Or.inr (q_X12_image e540)) ?_
          refine x_icmp_eq (tgt := 1333) C dL_law_1328 (by decide) (fun c621 => ?_) (fun c621 => ?_)
          · have hf := j_ifp hf c621
            refine x_iinc (v := z) C dL_law_1333 rfl ki_6 (by decide) ?_
            refine x_goto (tgt := 23) C dL_law_1336 (by decide) ?_
            obtain ⟨rfl, rfl⟩ := j_inj2 hf
            exact x_locr hk rfl
          · have hf := j_ifn hf c621
            refine x_iconst C dL_law_1331 ki_0 ?_
            obtain ⟨rfl, rfl⟩ := j_inj2 hf
            obtain ⟨rfl, rfl⟩ := hk
            exact x_zret C hret (Or.inl rfl) dL_law_1332
    have hf := j_ifn hf c614
    refine x_tableD C dL_law_40 1333 (by have := j_ne c546 (show (0 : Int32).toInt = 0 by decide); have := j_ne c548 (show (1 : Int32).toInt = 1 by decide); have := j_ne c550 (show (2 : Int32).toInt = 2 by decide); have := j_ne c552 (show (3 : Int32).toInt = 3 by decide); have := j_ne c554 (show (4 : Int32).toInt = 4 by decide); have := j_ne c556 (show (5 : Int32).toInt = 5 by decide); have := j_ne c558 (show (6 : Int32).toInt = 6 by decide); have := j_ne c566 (show (7 : Int32).toInt = 7 by decide); have := j_ne c570 (show (8 : Int32).toInt = 8 by decide); have := j_ne c572 (show (9 : Int32).toInt = 9 by decide); have := j_ne c574 (show (10 : Int32).toInt = 10 by decide); have := j_ne c576 (show (11 : Int32).toInt = 11 by decide); have := j_ne c578 (show (12 : Int32).toInt = 12 by decide); have := j_ne c580 (show (13 : Int32).toInt = 13 by decide); have := j_ne c582 (show (14 : Int32).toInt = 14 by decide); have := j_ne c584 (show (15 : Int32).toInt = 15 by decide); have := j_ne c586 (show (16 : Int32).toInt = 16 by decide); have := j_ne c588 (show (17 : Int32).toInt = 17 by decide); have := j_ne c590 (show (18 : Int32).toInt = 18 by decide); have := j_ne c592 (show (19 : Int32).toInt = 19 by decide); have := j_ne c594 (show (20 : Int32).toInt = 20 by decide); have := j_ne c596 (show (21 : Int32).toInt = 21 by decide); have := j_ne c598 (show (22 : Int32).toInt = 22 by decide); have := j_ne c600 (show (23 : Int32).toInt = 23 by decide); have := j_ne c608 (show (24 : Int32).toInt = 24 by decide); have := j_ne c612 (show (25 : Int32).toInt = 25 by decide); have := j_ne c614 (show (26 : Int32).toInt = 26 by decide); omega) (by decide) ?_
    refine x_iinc (v := z) C dL_law_1333 rfl ki_6 (by decide) ?_
    refine x_goto (tgt := 23) C dL_law_1336 (by decide) ?_
    obtain ⟨rfl, rfl⟩ := j_inj2 hf
    exact x_locr hk rfl
set_option maxHeartbeats 4000000 in
set_option maxRecDepth 100000 in
theorem x_L_law {p : Program} {l : Launch} {e : Env} {R : Room} {s : State} {m : MethodId} {args : Array Value} {below : List Frame} {meth : Method} {c : Code} {E : JE} {d : Nat} (hfl : l.flags = flags0) {a0 : Nat} {h : JH} {q : Int32 × JH} (C : j_C p s m args meth c R E cL_law 8 RL h q.2 d) (hret : meth.sig.returnType = (some .boolean)) (hdd : 63 ≤ d) (hf : f_L_law a0 h = some q) : Xw p l e R s m args below meth c E 8 h (some (.int q.1)) q.2 0 [(0, .ref a0)] [] h := by
  unfold f_L_law at hf
  obtain ⟨q1, e2, hf⟩ := j_bind hf
  have hle : j_le q1.2 q.2 := by
    obtain ⟨q3, e4, hf⟩ := j_bind hf
    refine j_le_trans (n_X11_init e4) ?_
    obtain ⟨q5, e6, hf⟩ := j_bind hf
    refine j_le_trans (jnO_le e6) ?_
    obtain ⟨q7, e8, hf⟩ := j_bind hf
    refine j_le_trans (n_X12_init e8) ?_
    obtain ⟨q9, e10, hf⟩ := j_bind hf
    refine j_le_trans (jnA_le e10) ?_
    obtain ⟨q622, e623, hf⟩ := j_bind hf
    refine j_le_trans ((jloop_le (fun _ _ _ _ q => n_L_law_L23 q) e623)) ?_
    cases y627 : q622.1 with
    | inl r625 =>
      rw [y627] at hf
      have hf := j_eliml hf
      obtain rfl := j_inj hf
      exact j_le_refl _
    | inr t624 =>
      rw [y627] at hf
      have hf := j_elimr hf
      obtain rfl := j_inj hf
      exact j_le_refl _
  refine x_new C dL_law_0 nc_L_8 e2 hle ?_
  refine x_dup C dL_law_3 rfl ?_
  obtain ⟨q3, e4, hf⟩ := j_bind hf
  have hle : j_le q3.2 q.2 := by
    obtain ⟨q5, e6, hf⟩ := j_bind hf
    refine j_le_trans (jnO_le e6) ?_
    obtain ⟨q7, e8, hf⟩ := j_bind hf
    refine j_le_trans (n_X12_init e8) ?_
    obtain ⟨q9, e10, hf⟩ := j_bind hf
    refine j_le_trans (jnA_le e10) ?_
    obtain ⟨q622, e623, hf⟩ := j_bind hf
    refine j_le_trans ((jloop_le (fun _ _ _ _ q => n_L_law_L23 q) e623)) ?_
    cases y628 : q622.1 with
    | inl r625 =>
      rw [y628] at hf
      have hf := j_eliml hf
      obtain rfl := j_inj hf
      exact j_le_refl _
    | inr t624 =>
      rw [y628] at hf
      have hf := j_elimr hf
      obtain rfl := j_inj hf
      exact j_le_refl _
  refine x_callI (As := []) (rest := [.ref q1.1]) C dL_law_4 (m_X11_init (l := l) (E := E) (d := d - 1) (by omega) e4) km_X11_init lk_L_19 ki_X11_init rfl (by omega) (Nat.le_of_ble_eq_true rfl) (n_X11_init e4) (Or.inl hle) ?_
  refine x_astore_n C dL_law_7 (by decide) ?_
  obtain ⟨q5, e6, hf⟩ := j_bind hf
  have hle : j_le q5.2 q.2 := by
    obtain ⟨q7, e8, hf⟩ := j_bind hf
    refine j_le_trans (n_X12_init e8) ?_
    obtain ⟨q9, e10, hf⟩ := j_bind hf
    refine j_le_trans (jnA_le e10) ?_
    obtain ⟨q622, e623, hf⟩ := j_bind hf
    refine j_le_trans ((jloop_le (fun _ _ _ _ q => n_L_law_L23 q) e623)) ?_
    cases y629 : q622.1 with
    | inl r625 =>
      rw [y629] at hf
      have hf := j_eliml hf
      obtain rfl := j_inj hf
      exact j_le_refl _
    | inr t624 =>
      rw [y629] at hf
      have hf := j_elimr hf
      obtain rfl := j_inj hf
      exact j_le_refl _
  refine x_new C dL_law_8 nc_L_20 e6 hle ?_
  refine x_dup C dL_law_11 rfl ?_
  obtain ⟨q7, e8, hf⟩ := j_bind hf
  have hle : j_le q7.2 q.2 := by
    obtain ⟨q9, e10, hf⟩ := j_bind hf
    refine j_le_trans (jnA_le e10) ?_
    obtain ⟨q622, e623, hf⟩ := j_bind hf
    refine j_le_trans ((jloop_le (fun _ _ _ _ q => n_L_law_L23 q) e623)) ?_
    cases y630 : q622.1 with
    | inl r625 =>
      rw [y630] at hf
      have hf := j_eliml hf
      obtain rfl := j_inj hf
      exact j_le_refl _
    | inr t624 =>
      rw [y630] at hf
      have hf := j_elimr hf
      obtain rfl := j_inj hf
      exact j_le_refl _
  refine x_callI (As := []) (rest := [.ref q5.1]) C dL_law_12 (m_X12_init (l := l) (E := E) (d := d - 1) (by omega) e8) km_X12_init lk_L_22 ki_X12_init rfl (by omega) (Nat.le_of_ble_eq_true rfl) (n_X12_init e8) (Or.inl hle) ?_
  refine x_astore_n C dL_law_15 (by decide) ?_
  refine x_iconst C dL_law_16 ki_1 ?_
  obtain ⟨q9, e10, hf⟩ := j_bind hf
  have hle : j_le q9.2 q.2 := by
    obtain ⟨q622, e623, hf⟩ := j_bind hf
    refine j_le_trans ((jloop_le (fun _ _ _ _ q => n_L_law_L23 q) e623)) ?_
    cases y631 : q622.1 with
    | inl r625 =>
      rw [y631] at hf
      have hf := j_eliml hf
      obtain rfl := j_inj hf
      exact j_le_refl _
    | inr t624 =>
      rw [y631] at hf
      have hf := j_elimr hf
      obtain rfl := j_inj hf
      exact j_le_refl _
  refine x_newa (q := q9.1) (h1 := q9.2) C dL_law_17 rfl (by decide) (by decide) (fun q => q) wi_long e10 hle ?_
  refine x_astore_n C dL_law_19 (by decide) ?_
  refine x_iconst C dL_law_20 ki_0 ?_
  refine x_istore C dL_law_21 (by decide) ?_
  obtain ⟨q622, e623, hf⟩ := j_bind hf
  have hle : j_le q622.2 q.2 := by
    cases y632 : q622.1 with
    | inl r625 =>
      rw [y632] at hf
      have hf := j_eliml hf
      obtain rfl := j_inj hf
      exact j_le_refl _
    | inr t624 =>
      rw [y632] at hf
      have hf := j_elimr hf
      obtain rfl := j_inj hf
      exact j_le_refl _
  refine x_loc [(0, .ref a0), (1, .ref q1.1), (2, .ref q5.1), (3, .ref q9.1), (4, .int (0 : Int32))] rfl ?_
  refine x_loopA (s_L_law_L23 hfl C hret hdd a0 q1.1 q5.1 q9.1) (fun _ _ _ _ q => n_L_law_L23 q) e623 hle ?_
  cases y633 : q622.1 with
  | inl r625 =>
    rw [y633] at hf
    have hf := j_eliml hf
    obtain rfl := j_inj hf
    exact ⟨rfl, rfl⟩
  | inr t624 =>
    rw [y633] at hf
    have hf := j_elimr hf
    refine j_elimG ?_
    refine x_iconst C dL_law_1339 ki_1 ?_
    obtain rfl := j_inj hf
    exact x_zret C hret (Or.inr rfl) dL_law_1340
