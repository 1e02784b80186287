/-- the law -/
def f_L_law_L23 (L : Nat) (xs : Nat → Int32) (y23_1 : Nat) (y23_2 : Nat) (y23_3 : Nat) : Nat → St → Int32 →  Option ((Int32) ⊕ (St))
  | 0, _, _ => none
  | fu + 1, S23_, y23_4 =>
    if ((Int32.ofNat L) - 5) < y23_4 then
      some (.inr S23_)
    else
      (scr L xs y23_4).bind fun x13 =>
      if (x13 &&& 31) = 0 then
        (scr L xs (y23_4 + 1)).bind fun x44 =>
        (scr L xs (y23_4 + 2)).bind fun x46 =>
        (f_L_make S23_ y23_1 x44 x46 y23_3).bind fun z48 =>
        (scr L xs (y23_4 + 1)).bind fun x50 =>
        (scr L xs (y23_4 + 2)).bind fun x52 =>
        (oO z48.2 y23_2 6).bind fun _ =>
        (f_X7_make z48.2 y23_2 x50 x52).bind fun z55 =>
        (oO z55.2 y23_2 6).bind fun _ =>
        (f_X7_thrown z55.2 y23_2).bind fun x58 =>
        if x58 = z48.1 then
          if z48.1 = 0 then
            (aJ z55.2 y23_3 0).bind fun x61 =>
            if (lg_cmp x61 (Int32.toInt64 z55.1)) = 0 then
              f_L_law_L23 L xs y23_1 y23_2 y23_3 fu z55.2 (y23_4 + 5)
            else
              some (.inl 0)
          else
            f_L_law_L23 L xs y23_1 y23_2 y23_3 fu z55.2 (y23_4 + 5)
        else
          some (.inl 0)
      else
        if (x13 &&& 31) = 1 then
          (f_L_read S23_ y23_1 y23_3).bind fun z65 =>
          (oO z65.2 y23_2 6).bind fun _ =>
          (f_X7_read z65.2 y23_2).bind fun z68 =>
          (oO z68.2 y23_2 6).bind fun _ =>
          (f_X7_thrown z68.2 y23_2).bind fun x71 =>
          if x71 = z65.1 then
            if z65.1 = 0 then
              (aJ z68.2 y23_3 0).bind fun x74 =>
              if (lg_cmp x74 (Int32.toInt64 z68.1)) = 0 then
                f_L_law_L23 L xs y23_1 y23_2 y23_3 fu z68.2 (y23_4 + 5)
              else
                some (.inl 0)
            else
              f_L_law_L23 L xs y23_1 y23_2 y23_3 fu z68.2 (y23_4 + 5)
          else
            some (.inl 0)
        else
          if (x13 &&& 31) = 2 then
            (scr L xs (y23_4 + 1)).bind fun x78 =>
            (scr L xs (y23_4 + 2)).bind fun x80 =>
            (f_L_add S23_ y23_1 x78 x80 y23_3).bind fun z82 =>
            (scr L xs (y23_4 + 1)).bind fun x84 =>
            (scr L xs (y23_4 + 2)).bind fun x86 =>
            (oO z82.2 y23_2 6).bind fun _ =>
            (f_X7_add z82.2 y23_2 x84 x86).bind fun z89 =>
            (oO z89.2 y23_2 6).bind fun _ =>
            (f_X7_thrown z89.2 y23_2).bind fun x92 =>
            if x92 = z82.1 then
              if z82.1 = 0 then
                (aJ z89.2 y23_3 0).bind fun x95 =>
                if (lg_cmp x95 (Int32.toInt64 z89.1)) = 0 then
                  f_L_law_L23 L xs y23_1 y23_2 y23_3 fu z89.2 (y23_4 + 5)
                else
                  some (.inl 0)
              else
                f_L_law_L23 L xs y23_1 y23_2 y23_3 fu z89.2 (y23_4 + 5)
            else
              some (.inl 0)
          else
            if (x13 &&& 31) = 3 then
              (scr L xs (y23_4 + 1)).bind fun x99 =>
              (scr L xs (y23_4 + 2)).bind fun x101 =>
              (scr L xs (y23_4 + 3)).bind fun x103 =>
              (f_L_put S23_ y23_1 x99 x101 x103 y23_3).bind fun z105 =>
              (scr L xs (y23_4 + 1)).bind fun x107 =>
              (scr L xs (y23_4 + 2)).bind fun x109 =>
              (scr L xs (y23_4 + 3)).bind fun x111 =>
              (oO z105.2 y23_2 6).bind fun _ =>
              (f_X7_put z105.2 y23_2 x107 x109 x111).bind fun z114 =>
              (oO z114.2 y23_2 6).bind fun _ =>
              (f_X7_thrown z114.2 y23_2).bind fun x117 =>
              if x117 = z105.1 then
                if z105.1 = 0 then
                  (aJ z114.2 y23_3 0).bind fun x120 =>
                  if (lg_cmp x120 (Int32.toInt64 z114.1)) = 0 then
                    f_L_law_L23 L xs y23_1 y23_2 y23_3 fu z114.2 (y23_4 + 5)
                  else
                    some (.inl 0)
                else
                  f_L_law_L23 L xs y23_1 y23_2 y23_3 fu z114.2 (y23_4 + 5)
              else
                some (.inl 0)
            else
              if (x13 &&& 31) = 4 then
                (scr L xs (y23_4 + 1)).bind fun x124 =>
                (scr L xs (y23_4 + 2)).bind fun x126 =>
                (f_L_take S23_ y23_1 x124 x126 y23_3).bind fun z128 =>
                (scr L xs (y23_4 + 1)).bind fun x130 =>
                (scr L xs (y23_4 + 2)).bind fun x132 =>
                (oO z128.2 y23_2 6).bind fun _ =>
                (f_X7_take z128.2 y23_2 x130 x132).bind fun z135 =>
                (oO z135.2 y23_2 6).bind fun _ =>
                (f_X7_thrown z135.2 y23_2).bind fun x138 =>
                if x138 = z128.1 then
                  if z128.1 = 0 then
                    (aJ z135.2 y23_3 0).bind fun x141 =>
                    if (lg_cmp x141 (Int32.toInt64 z135.1)) = 0 then
                      f_L_law_L23 L xs y23_1 y23_2 y23_3 fu z135.2 (y23_4 + 5)
                    else
                      some (.inl 0)
                  else
                    f_L_law_L23 L xs y23_1 y23_2 y23_3 fu z135.2 (y23_4 + 5)
                else
                  some (.inl 0)
              else
                if (x13 &&& 31) = 5 then
                  (scr L xs (y23_4 + 1)).bind fun x145 =>
                  (f_L_turn S23_ y23_1 x145 y23_3).bind fun z147 =>
                  (scr L xs (y23_4 + 1)).bind fun x149 =>
                  (oO z147.2 y23_2 6).bind fun _ =>
                  (f_X7_turn z147.2 y23_2 x149).bind fun z152 =>
                  (oO z152.2 y23_2 6).bind fun _ =>
                  (f_X7_thrown z152.2 y23_2).bind fun x155 =>
                  if x155 = z147.1 then
                    if z147.1 = 0 then
                      (aJ z152.2 y23_3 0).bind fun x158 =>
                      if (lg_cmp x158 (Int32.toInt64 z152.1)) = 0 then
                        f_L_law_L23 L xs y23_1 y23_2 y23_3 fu z152.2 (y23_4 + 5)
                      else
                        some (.inl 0)
                    else
                      f_L_law_L23 L xs y23_1 y23_2 y23_3 fu z152.2 (y23_4 + 5)
                  else
                    some (.inl 0)
                else
                  if (x13 &&& 31) = 6 then
                    (scr L xs (y23_4 + 1)).bind fun x162 =>
                    (scr L xs (y23_4 + 2)).bind fun x164 =>
                    (f_L_join S23_ y23_1 x162 x164 y23_3).bind fun z166 =>
                    (scr L xs (y23_4 + 1)).bind fun x168 =>
                    (scr L xs (y23_4 + 2)).bind fun x170 =>
                    (oO z166.2 y23_2 6).bind fun _ =>
                    (f_X7_join z166.2 y23_2 x168 x170).bind fun z173 =>
                    (oO z173.2 y23_2 6).bind fun _ =>
                    (f_X7_thrown z173.2 y23_2).bind fun x176 =>
                    if x176 = z166.1 then
                      if z166.1 = 0 then
                        (aJ z173.2 y23_3 0).bind fun x179 =>
                        if (lg_cmp x179 (Int32.toInt64 z173.1)) = 0 then
                          f_L_law_L23 L xs y23_1 y23_2 y23_3 fu z173.2 (y23_4 + 5)
                        else
                          some (.inl 0)
                      else
                        f_L_law_L23 L xs y23_1 y23_2 y23_3 fu z173.2 (y23_4 + 5)
                    else
                      some (.inl 0)
                  else
                    if (x13 &&& 31) = 7 then
                      (scr L xs (y23_4 + 1)).bind fun x183 =>
                      (scr L xs (y23_4 + 2)).bind fun x185 =>
                      (f_L_cut S23_ y23_1 x183 x185 y23_3).bind fun z187 =>
                      (scr L xs (y23_4 + 1)).bind fun x189 =>
                      (scr L xs (y23_4 + 2)).bind fun x191 =>
                      (oO z187.2 y23_2 6).bind fun _ =>
                      (f_X7_cut z187.2 y23_2 x189 x191).bind fun z194 =>
                      (oO z194.2 y23_2 6).bind fun _ =>
                      (f_X7_thrown z194.2 y23_2).bind fun x197 =>
                      if x197 = z187.1 then
                        if z187.1 = 0 then
                          (aJ z194.2 y23_3 0).bind fun x200 =>
                          if (lg_cmp x200 (Int32.toInt64 z194.1)) = 0 then
                            f_L_law_L23 L xs y23_1 y23_2 y23_3 fu z194.2 (y23_4 + 5)
                          else
                            some (.inl 0)
                        else
                          f_L_law_L23 L xs y23_1 y23_2 y23_3 fu z194.2 (y23_4 + 5)
                      else
                        some (.inl 0)
                    else
                      if (x13 &&& 31) = 8 then
                        (scr L xs (y23_4 + 1)).bind fun x204 =>
                        (f_L_pass S23_ y23_1 x204 y23_3).bind fun z206 =>
                        (scr L xs (y23_4 + 1)).bind fun x208 =>
                        (oO z206.2 y23_2 6).bind fun _ =>
                        (f_X7_pass z206.2 y23_2 x208).bind fun z211 =>
                        (oO z211.2 y23_2 6).bind fun _ =>
                        (f_X7_thrown z211.2 y23_2).bind fun x214 =>
                        if x214 = z206.1 then
                          if z206.1 = 0 then
                            (aJ z211.2 y23_3 0).bind fun x217 =>
                            if (lg_cmp x217 (Int32.toInt64 z211.1)) = 0 then
                              f_L_law_L23 L xs y23_1 y23_2 y23_3 fu z211.2 (y23_4 + 5)
                            else
                              some (.inl 0)
                          else
                            f_L_law_L23 L xs y23_1 y23_2 y23_3 fu z211.2 (y23_4 + 5)
                        else
                          some (.inl 0)
                      else
                        if (x13 &&& 31) = 9 then
                          (scr L xs (y23_4 + 1)).bind fun x221 =>
                          (f_L_breakVow S23_ y23_1 x221 y23_3).bind fun z223 =>
                          (scr L xs (y23_4 + 1)).bind fun x225 =>
                          (oO z223.2 y23_2 6).bind fun _ =>
                          (f_X7_breakVow z223.2 y23_2 x225).bind fun z228 =>
                          (oO z228.2 y23_2 6).bind fun _ =>
                          (f_X7_thrown z228.2 y23_2).bind fun x231 =>
                          if x231 = z223.1 then
                            if z223.1 = 0 then
                              (aJ z228.2 y23_3 0).bind fun x234 =>
                              if (lg_cmp x234 (Int32.toInt64 z228.1)) = 0 then
                                f_L_law_L23 L xs y23_1 y23_2 y23_3 fu z228.2 (y23_4 + 5)
                              else
                                some (.inl 0)
                            else
                              f_L_law_L23 L xs y23_1 y23_2 y23_3 fu z228.2 (y23_4 + 5)
                          else
                            some (.inl 0)
                        else
                          if (x13 &&& 31) = 10 then
                            (scr L xs (y23_4 + 1)).bind fun x238 =>
                            (scr L xs (y23_4 + 2)).bind fun x240 =>
                            (scr L xs (y23_4 + 3)).bind fun x242 =>
                            (f_L_ask S23_ y23_1 x238 x240 x242 y23_3).bind fun z244 =>
                            (scr L xs (y23_4 + 1)).bind fun x246 =>
                            (scr L xs (y23_4 + 2)).bind fun x248 =>
                            (scr L xs (y23_4 + 3)).bind fun x250 =>
                            (oO z244.2 y23_2 6).bind fun _ =>
                            (f_X7_ask z244.2 y23_2 x246 x248 x250).bind fun z253 =>
                            (oO z253.2 y23_2 6).bind fun _ =>
                            (f_X7_thrown z253.2 y23_2).bind fun x256 =>
                            if x256 = z244.1 then
                              if z244.1 = 0 then
                                (aJ z253.2 y23_3 0).bind fun x259 =>
                                if (lg_cmp x259 (Int32.toInt64 z253.1)) = 0 then
                                  f_L_law_L23 L xs y23_1 y23_2 y23_3 fu z253.2 (y23_4 + 5)
                                else
                                  some (.inl 0)
                              else
                                f_L_law_L23 L xs y23_1 y23_2 y23_3 fu z253.2 (y23_4 + 5)
                            else
                              some (.inl 0)
                          else
                            if (x13 &&& 31) = 11 then
                              (scr L xs (y23_4 + 1)).bind fun x263 =>
                              (scr L xs (y23_4 + 2)).bind fun x265 =>
                              (f_L_set S23_ y23_1 x263 x265 y23_3).bind fun z267 =>
                              (scr L xs (y23_4 + 1)).bind fun x269 =>
                              (scr L xs (y23_4 + 2)).bind fun x271 =>
                              (oO z267.2 y23_2 6).bind fun _ =>
                              (f_X7_set z267.2 y23_2 x269 x271).bind fun z274 =>
                              (oO z274.2 y23_2 6).bind fun _ =>
                              (f_X7_thrown z274.2 y23_2).bind fun x277 =>
                              if x277 = z267.1 then
                                if z267.1 = 0 then
                                  (aJ z274.2 y23_3 0).bind fun x280 =>
                                  if (lg_cmp x280 (Int32.toInt64 z274.1)) = 0 then
                                    f_L_law_L23 L xs y23_1 y23_2 y23_3 fu z274.2 (y23_4 + 5)
                                  else
                                    some (.inl 0)
                                else
                                  f_L_law_L23 L xs y23_1 y23_2 y23_3 fu z274.2 (y23_4 + 5)
                              else
                                some (.inl 0)
                            else
                              if (x13 &&& 31) = 12 then
                                (scr L xs (y23_4 + 1)).bind fun x284 =>
                                (f_L_append S23_ y23_1 x284 y23_3).bind fun z286 =>
                                (scr L xs (y23_4 + 1)).bind fun x288 =>
                                (oO z286.2 y23_2 6).bind fun _ =>
                                (f_X7_append z286.2 y23_2 x288).bind fun z291 =>
                                (oO z291.2 y23_2 6).bind fun _ =>
                                (f_X7_thrown z291.2 y23_2).bind fun x294 =>
                                if x294 = z286.1 then
                                  if z286.1 = 0 then
                                    (aJ z291.2 y23_3 0).bind fun x297 =>
                                    if (lg_cmp x297 (Int32.toInt64 z291.1)) = 0 then
                                      f_L_law_L23 L xs y23_1 y23_2 y23_3 fu z291.2 (y23_4 + 5)
                                    else
                                      some (.inl 0)
                                  else
                                    f_L_law_L23 L xs y23_1 y23_2 y23_3 fu z291.2 (y23_4 + 5)
                                else
                                  some (.inl 0)
                              else
                                if (x13 &&& 31) = 13 then
                                  (oO S23_ y23_1 5).bind fun _ =>
                                  (f_X6_clearBuffer S23_ y23_1).bind fun z302 =>
                                  (oO z302.2 y23_2 6).bind fun _ =>
                                  (f_X7_clearBuffer z302.2 y23_2).bind fun z305 =>
                                  if z302.1 = z305.1 then
                                    f_L_law_L23 L xs y23_1 y23_2 y23_3 fu z305.2 (y23_4 + 5)
                                  else
                                    some (.inl 0)
                                else
                                  if (x13 &&& 31) = 14 then
                                    (oO S23_ y23_1 5).bind fun _ =>
                                    (f_X6_firstError S23_ y23_1).bind fun z309 =>
                                    (oO z309.2 y23_2 6).bind fun _ =>
                                    (f_X7_firstError z309.2 y23_2).bind fun z312 =>
                                    if z309.1 = z312.1 then
                                      f_L_law_L23 L xs y23_1 y23_2 y23_3 fu z312.2 (y23_4 + 5)
                                    else
                                      some (.inl 0)
                                  else
                                    if (x13 &&& 31) = 15 then
                                      (f_L_undo S23_ y23_1 y23_3).bind fun z315 =>
                                      (oO z315.2 y23_2 6).bind fun _ =>
                                      (f_X7_undo z315.2 y23_2).bind fun z318 =>
                                      (oO z318.2 y23_2 6).bind fun _ =>
                                      (f_X7_thrown z318.2 y23_2).bind fun x321 =>
                                      if x321 = z315.1 then
                                        if z315.1 = 0 then
                                          (aJ z318.2 y23_3 0).bind fun x324 =>
                                          if (lg_cmp x324 (Int32.toInt64 z318.1)) = 0 then
                                            f_L_law_L23 L xs y23_1 y23_2 y23_3 fu z318.2 (y23_4 + 5)
                                          else
                                            some (.inl 0)
                                        else
                                          f_L_law_L23 L xs y23_1 y23_2 y23_3 fu z318.2 (y23_4 + 5)
                                      else
                                        some (.inl 0)
                                    else
                                      if (x13 &&& 31) = 16 then
                                        (scr L xs (y23_4 + 1)).bind fun x328 =>
                                        (scr L xs (y23_4 + 2)).bind fun x330 =>
                                        (f_L_block S23_ y23_1 x328 x330 y23_3).bind fun z332 =>
                                        (scr L xs (y23_4 + 1)).bind fun x334 =>
                                        (scr L xs (y23_4 + 2)).bind fun x336 =>
                                        (oO z332.2 y23_2 6).bind fun _ =>
                                        (f_X7_block z332.2 y23_2 x334 x336).bind fun z339 =>
                                        (oO z339.2 y23_2 6).bind fun _ =>
                                        (f_X7_thrown z339.2 y23_2).bind fun x342 =>
                                        if x342 = z332.1 then
                                          if z332.1 = 0 then
                                            (aJ z339.2 y23_3 0).bind fun x345 =>
                                            if (lg_cmp x345 (Int32.toInt64 z339.1)) = 0 then
                                              f_L_law_L23 L xs y23_1 y23_2 y23_3 fu z339.2 (y23_4 + 5)
                                            else
                                              some (.inl 0)
                                          else
                                            f_L_law_L23 L xs y23_1 y23_2 y23_3 fu z339.2 (y23_4 + 5)
                                        else
                                          some (.inl 0)
                                      else
                                        if (x13 &&& 31) = 17 then
                                          (scr L xs (y23_4 + 1)).bind fun x349 =>
                                          (scr L xs (y23_4 + 2)).bind fun x351 =>
                                          (f_L_value S23_ y23_1 x349 x351 y23_3).bind fun z353 =>
                                          (scr L xs (y23_4 + 1)).bind fun x355 =>
                                          (scr L xs (y23_4 + 2)).bind fun x357 =>
                                          (oO z353.2 y23_2 6).bind fun _ =>
                                          (f_X7_value z353.2 y23_2 x355 x357).bind fun z360 =>
                                          (oO z360.2 y23_2 6).bind fun _ =>
                                          (f_X7_thrown z360.2 y23_2).bind fun x363 =>
                                          if x363 = z353.1 then
                                            if z353.1 = 0 then
                                              (aJ z360.2 y23_3 0).bind fun x366 =>
                                              if (lg_cmp x366 (Int32.toInt64 z360.1)) = 0 then
                                                f_L_law_L23 L xs y23_1 y23_2 y23_3 fu z360.2 (y23_4 + 5)
                                              else
                                                some (.inl 0)
                                            else
                                              f_L_law_L23 L xs y23_1 y23_2 y23_3 fu z360.2 (y23_4 + 5)
                                          else
                                            some (.inl 0)
                                        else
                                          if (x13 &&& 31) = 18 then
                                            (scr L xs (y23_4 + 1)).bind fun x370 =>
                                            (f_L_count S23_ y23_1 x370 y23_3).bind fun z372 =>
                                            (scr L xs (y23_4 + 1)).bind fun x374 =>
                                            (oO z372.2 y23_2 6).bind fun _ =>
                                            (f_X7_count z372.2 y23_2 x374).bind fun z377 =>
                                            (oO z377.2 y23_2 6).bind fun _ =>
                                            (f_X7_thrown z377.2 y23_2).bind fun x380 =>
                                            if x380 = z372.1 then
                                              if z372.1 = 0 then
                                                (aJ z377.2 y23_3 0).bind fun x383 =>
                                                if (lg_cmp x383 (Int32.toInt64 z377.1)) = 0 then
                                                  f_L_law_L23 L xs y23_1 y23_2 y23_3 fu z377.2 (y23_4 + 5)
                                                else
                                                  some (.inl 0)
                                              else
                                                f_L_law_L23 L xs y23_1 y23_2 y23_3 fu z377.2 (y23_4 + 5)
                                            else
                                              some (.inl 0)
                                          else
                                            if (x13 &&& 31) = 19 then
                                              (scr L xs (y23_4 + 1)).bind fun x387 =>
                                              (f_L_setting S23_ y23_1 x387 y23_3).bind fun z389 =>
                                              (scr L xs (y23_4 + 1)).bind fun x391 =>
                                              (oO z389.2 y23_2 6).bind fun _ =>
                                              (f_X7_setting z389.2 y23_2 x391).bind fun z394 =>
                                              (oO z394.2 y23_2 6).bind fun _ =>
                                              (f_X7_thrown z394.2 y23_2).bind fun x397 =>
                                              if x397 = z389.1 then
                                                if z389.1 = 0 then
                                                  (aJ z394.2 y23_3 0).bind fun x400 =>
                                                  if (lg_cmp x400 (Int32.toInt64 z394.1)) = 0 then
                                                    f_L_law_L23 L xs y23_1 y23_2 y23_3 fu z394.2 (y23_4 + 5)
                                                  else
                                                    some (.inl 0)
                                                else
                                                  f_L_law_L23 L xs y23_1 y23_2 y23_3 fu z394.2 (y23_4 + 5)
                                              else
                                                some (.inl 0)
                                            else
                                              if (x13 &&& 31) = 20 then
                                                (scr L xs (y23_4 + 1)).bind fun x404 =>
                                                (scr L xs (y23_4 + 2)).bind fun x406 =>
                                                (f_L_cost S23_ y23_1 x404 x406 y23_3).bind fun z408 =>
                                                (scr L xs (y23_4 + 1)).bind fun x410 =>
                                                (scr L xs (y23_4 + 2)).bind fun x412 =>
                                                (oO z408.2 y23_2 6).bind fun _ =>
                                                (f_X7_cost z408.2 y23_2 x410 x412).bind fun z415 =>
                                                (oO z415.2 y23_2 6).bind fun _ =>
                                                (f_X7_thrown z415.2 y23_2).bind fun x418 =>
                                                if x418 = z408.1 then
                                                  if z408.1 = 0 then
                                                    (aJ z415.2 y23_3 0).bind fun x421 =>
                                                    if (lg_cmp x421 (Int32.toInt64 z415.1)) = 0 then
                                                      f_L_law_L23 L xs y23_1 y23_2 y23_3 fu z415.2 (y23_4 + 5)
                                                    else
                                                      some (.inl 0)
                                                  else
                                                    f_L_law_L23 L xs y23_1 y23_2 y23_3 fu z415.2 (y23_4 + 5)
                                                else
                                                  some (.inl 0)
                                              else
                                                if (x13 &&& 31) = 21 then
                                                  (scr L xs (y23_4 + 1)).bind fun x425 =>
                                                  (scr L xs (y23_4 + 2)).bind fun x427 =>
                                                  (scr L xs (y23_4 + 3)).bind fun x429 =>
                                                  (scr L xs (y23_4 + 4)).bind fun x431 =>
                                                  (f_L_work S23_ y23_1 x425 x427 x429 x431 y23_3).bind fun z433 =>
                                                  (scr L xs (y23_4 + 1)).bind fun x435 =>
                                                  (scr L xs (y23_4 + 2)).bind fun x437 =>
                                                  (scr L xs (y23_4 + 3)).bind fun x439 =>
                                                  (scr L xs (y23_4 + 4)).bind fun x441 =>
                                                  (oO z433.2 y23_2 6).bind fun _ =>
                                                  (f_X7_work z433.2 y23_2 x435 x437 x439 x441).bind fun z444 =>
                                                  (oO z444.2 y23_2 6).bind fun _ =>
                                                  (f_X7_thrown z444.2 y23_2).bind fun x447 =>
                                                  if x447 = z433.1 then
                                                    if z433.1 = 0 then
                                                      (aJ z444.2 y23_3 0).bind fun x450 =>
                                                      if (lg_cmp x450 (Int32.toInt64 z444.1)) = 0 then
                                                        f_L_law_L23 L xs y23_1 y23_2 y23_3 fu z444.2 (y23_4 + 5)
                                                      else
                                                        some (.inl 0)
                                                    else
                                                      f_L_law_L23 L xs y23_1 y23_2 y23_3 fu z444.2 (y23_4 + 5)
                                                  else
                                                    some (.inl 0)
                                                else
                                                  if (x13 &&& 31) = 22 then
                                                    (scr L xs (y23_4 + 1)).bind fun x454 =>
                                                    (scr L xs (y23_4 + 2)).bind fun x456 =>
                                                    (f_L_regretIn S23_ y23_1 x454 x456 y23_3).bind fun z458 =>
                                                    (scr L xs (y23_4 + 1)).bind fun x460 =>
                                                    (scr L xs (y23_4 + 2)).bind fun x462 =>
                                                    (oO z458.2 y23_2 6).bind fun _ =>
                                                    (f_X7_regretIn z458.2 y23_2 x460 x462).bind fun z465 =>
                                                    (oO z465.2 y23_2 6).bind fun _ =>
                                                    (f_X7_thrown z465.2 y23_2).bind fun x468 =>
                                                    if x468 = z458.1 then
                                                      if z458.1 = 0 then
                                                        (aJ z465.2 y23_3 0).bind fun x471 =>
                                                        if (lg_cmp x471 (Int32.toInt64 z465.1)) = 0 then
                                                          f_L_law_L23 L xs y23_1 y23_2 y23_3 fu z465.2 (y23_4 + 5)
                                                        else
                                                          some (.inl 0)
                                                      else
                                                        f_L_law_L23 L xs y23_1 y23_2 y23_3 fu z465.2 (y23_4 + 5)
                                                    else
                                                      some (.inl 0)
                                                  else
                                                    if (x13 &&& 31) = 23 then
                                                      (scr L xs (y23_4 + 1)).bind fun x475 =>
                                                      (f_L_gain S23_ y23_1 x475 y23_3).bind fun z477 =>
                                                      (scr L xs (y23_4 + 1)).bind fun x479 =>
                                                      (oO z477.2 y23_2 6).bind fun _ =>
                                                      (f_X7_gain z477.2 y23_2 x479).bind fun z482 =>
                                                      (oO z482.2 y23_2 6).bind fun _ =>
                                                      (f_X7_thrown z482.2 y23_2).bind fun x485 =>
                                                      if x485 = z477.1 then
                                                        if z477.1 = 0 then
                                                          (aJ z482.2 y23_3 0).bind fun x488 =>
                                                          if (lg_cmp x488 (Int32.toInt64 z482.1)) = 0 then
                                                            f_L_law_L23 L xs y23_1 y23_2 y23_3 fu z482.2 (y23_4 + 5)
                                                          else
                                                            some (.inl 0)
                                                        else
                                                          f_L_law_L23 L xs y23_1 y23_2 y23_3 fu z482.2 (y23_4 + 5)
                                                      else
                                                        some (.inl 0)
                                                    else
                                                      if (x13 &&& 31) = 24 then
                                                        (scr L xs (y23_4 + 1)).bind fun x492 =>
                                                        (scr L xs (y23_4 + 2)).bind fun x494 =>
                                                        (f_L_cheapest S23_ y23_1 x492 x494 y23_3).bind fun z496 =>
                                                        (scr L xs (y23_4 + 1)).bind fun x498 =>
                                                        (scr L xs (y23_4 + 2)).bind fun x500 =>
                                                        (oO z496.2 y23_2 6).bind fun _ =>
                                                        (f_X7_cheapest z496.2 y23_2 x498 x500).bind fun z503 =>
                                                        (oO z503.2 y23_2 6).bind fun _ =>
                                                        (f_X7_thrown z503.2 y23_2).bind fun x506 =>
                                                        if x506 = z496.1 then
                                                          if z496.1 = 0 then
                                                            (aJ z503.2 y23_3 0).bind fun x509 =>
                                                            if (lg_cmp x509 (Int32.toInt64 z503.1)) = 0 then
                                                              f_L_law_L23 L xs y23_1 y23_2 y23_3 fu z503.2 (y23_4 + 5)
                                                            else
                                                              some (.inl 0)
                                                          else
                                                            f_L_law_L23 L xs y23_1 y23_2 y23_3 fu z503.2 (y23_4 + 5)
                                                        else
                                                          some (.inl 0)
                                                      else
                                                        if (x13 &&& 31) = 25 then
                                                          (scr L xs (y23_4 + 1)).bind fun x513 =>
                                                          (f_L_mate S23_ y23_1 x513 y23_3).bind fun z515 =>
                                                          (scr L xs (y23_4 + 1)).bind fun x517 =>
                                                          (oO z515.2 y23_2 6).bind fun _ =>
                                                          (f_X7_mate z515.2 y23_2 x517).bind fun z520 =>
                                                          (oO z520.2 y23_2 6).bind fun _ =>
                                                          (f_X7_thrown z520.2 y23_2).bind fun x523 =>
                                                          if x523 = z515.1 then
                                                            if z515.1 = 0 then
                                                              (aJ z520.2 y23_3 0).bind fun x526 =>
                                                              if (lg_cmp x526 (Int32.toInt64 z520.1)) = 0 then
                                                                f_L_law_L23 L xs y23_1 y23_2 y23_3 fu z520.2 (y23_4 + 5)
                                                              else
                                                                some (.inl 0)
                                                            else
                                                              f_L_law_L23 L xs y23_1 y23_2 y23_3 fu z520.2 (y23_4 + 5)
                                                          else
                                                            some (.inl 0)
                                                        else
                                                          if (x13 &&& 31) = 26 then
                                                            (oO S23_ y23_1 5).bind fun _ =>
                                                            (f_X6_meanBits S23_ y23_1).bind fun x531 =>
                                                            (oO S23_ y23_2 6).bind fun _ =>
                                                            (f_X7_meanBits S23_ y23_2).bind fun z534 =>
                                                            if (Op.cmpValue (FP.dcmp x531 z534.1) .l) = 0 then
                                                              f_L_law_L23 L xs y23_1 y23_2 y23_3 fu z534.2 (y23_4 + 5)
                                                            else
                                                              if (Op.cmpValue (FP.dcmp x531 x531) .l) = 0 then
                                                                some (.inl 0)
                                                              else
                                                                if (Op.cmpValue (FP.dcmp z534.1 z534.1) .l) = 0 then
                                                                  some (.inl 0)
                                                                else
                                                                  f_L_law_L23 L xs y23_1 y23_2 y23_3 fu z534.2 (y23_4 + 5)
                                                          else
                                                            if (x13 &&& 31) = 27 then
                                                              (oO S23_ y23_1 5).bind fun _ =>
                                                              (f_X6_digest S23_ y23_1).bind fun z540 =>
                                                              (oO z540.2 y23_2 6).bind fun _ =>
                                                              (f_X7_digest z540.2 y23_2).bind fun z543 =>
                                                              if (lg_cmp z540.1 z543.1) = 0 then
                                                                f_L_law_L23 L xs y23_1 y23_2 y23_3 fu z543.2 (y23_4 + 5)
                                                              else
                                                                some (.inl 0)
                                                            else
                                                              f_L_law_L23 L xs y23_1 y23_2 y23_3 fu S23_ (y23_4 + 5)
def f_L_law (S : St) (sz : Nat) (L : Nat) (xs : Nat → Int32) : Option Int32 :=
  (f_X6_init (va_up S sz (some (.inl (5, [.null, .null, .null, .null])))) (sz + 1) sz).bind fun z2 =>
  (f_X7_init (va_up z2.1 z2.2 (some (.inl (6, [.null, .int 0, .null, .int 0, .null, .int 0, .null, .int 0, .null, .int 0, .int 0, .int 0, .long 0])))) (z2.2 + 1) z2.2).bind fun z5 =>
  (f_L_law_L23 L xs sz z2.2 z5.2 513 (va_up z5.1 z5.2 (some (arJ 1 (fun _ => 0)))) 0).bind fun z7 =>
  Sum.elim (fun y => some y) (fun t23_7 =>
  some 1
  ) z7
set_option maxHeartbeats 16000000 in
set_option maxRecDepth 100000 in
theorem m_L_law {p : Program} {e : Env} {s : State} {m : MethodId} {args : Array Value} {below : List Frame} {meth : Method} {c : Code} {Q : State → Prop} {ls : Array Slot} (l : Launch) (hl0 : l.stackTraces = false) (D : va_G) (cy : Nat → ClassId) (S : St) (sz b L : Nat) (xs : Nat → Int32) (A : Nat → Prop) (hx : p.tables.exec = Jvm.exec) (hb : c.code = code) (hml : c.maxLocals = 9) (hown : s.vm.findClass RL = some m.cls) (hts : ∀ w ∈ ALLW, w.before args s = true) (hK : va_K D vwCl (tyL cy) s) (hE : ENV A s) (hNC : NCS s) (hEA : NWA s) (hX : va_X b L xs s s.heap) (hbl : b < s.heap.size) (hbA : ¬ A b) (hA : ∀ q, s.heap.size ≤ q → A q) (hz : s.heap.size = sz) (hP : SP D cy S s.heap) (hD : ∀ a, S a ≠ none → A a) (hS : va_S A s.heap s.heap []) (hl : lv_has ls 9 [(0, .ref b)])
    (hend : ∀ (H : Heap) (locs : List Loc) (ls : Array Slot) (cs sl : Nat), cs ≤ 601024 → sl ≤ 7293034 → va_S A s.heap H locs → W p l e room_1 s m args below meth c H locs cs sl Q (F0 m 1788 ls [.int 1])) (h : f_L_law S sz L xs = some 1) : W p l e room_1 s m args below meth c s.heap [] 0 0 Q (F0 m 0 ls []) := by
  rw [f_L_law] at h
  refine r_new (ci := 5) (fs := [.null, .null, .null, .null]) (T := TX6) (N := 4) hx hb hts iX6 tyX6 tyX6_ok hown (hts _ wd_85) (hts _ wd_86) (hts _ wd_69) hK hP hD hS hA rfl (fun j hj => by have h9 : j < 4 := hj; match j, h9 with | 0, _ => rfl | 1, _ => rfl | 2, _ => rfl | 3, _ => rfl) (Nat.le_of_ble_eq_true rfl) (Nat.le_of_ble_eq_true rfl) dL_law_0 hz (fun H hz hP hD hS => ?_)
  refine lv_dup hx hb dL_law_3 rfl ?_
  replace h := bd h
  obtain ⟨z2, q3, h⟩ := h
  refine c_X6_init ⟨hx, hb, hml, hown, hts⟩ hl.1 hK hP hD hA hS hEA wd_87 ⟨(Nat.le_of_ble_eq_true rfl), (Nat.le_of_ble_eq_true rfl)⟩ q3 hz (Nat.le_of_ble_eq_true rfl) dL_law_4 ⟨(Nat.le_of_ble_eq_true rfl), (Nat.le_of_ble_eq_true rfl)⟩ (fun H locs hz hP hD hS => ?_)
  refine lv_astore_n (lv' := [(1, .ref sz), (0, .ref b)]) hx hb dL_law_7 rfl hl (by decide) rfl (fun ls hl => ?_)
  refine r_new (ci := 6) (fs := [.null, .int 0, .null, .int 0, .null, .int 0, .null, .int 0, .null, .int 0, .int 0, .int 0, .long 0]) (T := TX7) (N := 13) hx hb hts iX7 tyX7 tyX7_ok hown (hts _ wd_881) (hts _ wd_882) (hts _ wd_75) hK hP hD hS hA rfl (fun j hj => by have h9 : j < 13 := hj; match j, h9 with | 0, _ => rfl | 1, _ => rfl | 2, _ => rfl | 3, _ => rfl | 4, _ => rfl | 5, _ => rfl | 6, _ => rfl | 7, _ => rfl | 8, _ => rfl | 9, _ => rfl | 10, _ => rfl | 11, _ => rfl | 12, _ => rfl) (Nat.le_of_ble_eq_true rfl) (Nat.le_of_ble_eq_true rfl) dL_law_8 hz (fun H hz hP hD hS => ?_)
  refine lv_dup hx hb dL_law_11 rfl ?_
  replace h := bd h
  obtain ⟨z5, q6, h⟩ := h
  refine c_X7_init ⟨hx, hb, hml, hown, hts⟩ hl.1 hK hP hD hA hS hEA wd_883 ⟨(Nat.le_of_ble_eq_true rfl), (Nat.le_of_ble_eq_true rfl)⟩ q6 hz (Nat.le_of_ble_eq_true rfl) dL_law_12 ⟨(Nat.le_of_ble_eq_true rfl), (Nat.le_of_ble_eq_true rfl)⟩ (fun H locs hz hP hD hS => ?_)
  refine lv_astore_n (lv' := [(2, .ref z2.2), (1, .ref sz), (0, .ref b)]) hx hb dL_law_15 rfl hl (by decide) rfl (fun ls hl => ?_)
  refine lv_iconst (v := 1) hx hb dL_law_16 (by decide) ?_
  refine r_newJ hx hb (hts _ wd_1269) hK hP hD hS hA (N := 1) (by decide) (by decide) (by decide) (Nat.le_of_ble_eq_true rfl) (Nat.le_of_ble_eq_true rfl) dL_law_17 hz (fun H hz hP hD hS => ?_)
  refine lv_astore_n (lv' := [(3, .ref z5.2), (2, .ref z2.2), (1, .ref sz), (0, .ref b)]) hx hb dL_law_19 rfl hl (by decide) rfl (fun ls hl => ?_)
  refine lv_iconst (v := 0) hx hb dL_law_20 (by decide) ?_
  refine lv_istore (lv' := [(4, .int 0), (3, .ref z5.2), (2, .ref z2.2), (1, .ref sz), (0, .ref b)]) hx hb dL_law_21 hl (by decide) rfl (fun ls hl => ?_)
  have L23 : ∀ (y23_1 : Nat) (y23_2 : Nat) (y23_3 : Nat) (fu : Nat) (S23_ : St) (y23_4 : Int32) (res : (Int32) ⊕ (St)), f_L_law_L23 L xs y23_1 y23_2 y23_3 fu S23_ y23_4 = some res → ∀ (cs sl9 : Nat), cs + 4 * fu ≤ 601024 → sl9 + 24 * fu ≤ 7293034 → ∀ (H : Heap) (locs : List Loc) (ls : Array Slot), SP D cy S23_ H → (∀ a, S23_ a ≠ none → A a) → va_S A s.heap H locs → lv_has ls 9 [(0, .ref b), (1, .ref y23_1), (2, .ref y23_2), (3, .ref y23_3), (4, .int y23_4)] → (∀ y : Int32, res = .inl y → y = 1) → (∀ t23_7 : St, res = .inr t23_7 → ∀ (cs sl9 : Nat), cs ≤ 601024 → sl9 ≤ 7293034 → ∀ (H : Heap) (locs : List Loc) (ls : Array Slot), SP D cy t23_7 H → (∀ a, t23_7 a ≠ none → A a) → va_S A s.heap H locs → lv_has ls 9 [] → W p l e room_1 s m args below meth c H locs cs sl9 Q (F0 m 1787 ls [])) → W p l e room_1 s m args below meth c H locs cs sl9 Q (F0 m 23 ls []) := by
    intro y23_1 y23_2 y23_3 fu
    induction fu with
    | zero =>
      intro S23_ y23_4 res h
      rw [f_L_law_L23] at h
      cases h
    | succ fu ih =>
      intro S23_ y23_4 res h cs sl9 hcs hsl H locs ls hP hD hS hl hret hexit
      rw [f_L_law_L23] at h
      refine lv_iload hx hb dL_law_23 (lv_at hl 4 rfl) ?_
      refine lv_aload_n hx hb dL_law_25 rfl (lv_at hl 0 rfl) ?_
      refine va_slen hx hb hX hbl hbA hS dL_law_26 ?_
      refine lv_iconst (v := 5) hx hb dL_law_27 (by decide) ?_
      refine lv_isub hx hb dL_law_28 ?_
      refine lv_icmp_gt (tgt := 1787) hx hb dL_law_29 (by decide) (fun c11 => ?_) (fun c11 => ?_)
      · replace h := ifp c11 h
        cases h
        exact hexit _ rfl _ _ (by omega) (by omega) _ _ _ hP hD hS (lv_sub hl [] rfl)
      · replace h := ifn c11 h
        refine lv_aload_n hx hb dL_law_32 rfl (lv_at hl 0 rfl) ?_
        refine lv_iload hx hb dL_law_33 (lv_at hl 4 rfl) ?_
        replace h := bd h
        obtain ⟨x13, q12, h⟩ := h
        refine r_scr hx hb hX hbl hbA hS q12 dL_law_35 ?_
        refine lv_bipush (v := 31) hx hb dL_law_36 (by decide) ?_
        refine lv_iand hx hb dL_law_38 ?_
        by_cases c14 : (x13 &&& 31) = 0
        · replace h := ifp c14 h
          refine lv_tableIn (off := 125) (tgt := 164) hx hb dL_law_39 (by rw [c14]; decide) (by rw [c14]; decide) (by rw [c14]; rfl) (by decide) ?_
          refine lv_aload_n hx hb dL_law_164 rfl (lv_at hl 1 rfl) ?_
          refine lv_aload_n hx hb dL_law_165 rfl (lv_at hl 0 rfl) ?_
          refine lv_iload hx hb dL_law_166 (lv_at hl 4 rfl) ?_
          refine lv_iconst (v := 1) hx hb dL_law_168 (by decide) ?_
          refine lv_iadd hx hb dL_law_169 ?_
          replace h := bd h
          obtain ⟨x44, q43, h⟩ := h
          refine r_scr hx hb hX hbl hbA hS q43 dL_law_170 ?_
          refine lv_aload_n hx hb dL_law_171 rfl (lv_at hl 0 rfl) ?_
          refine lv_iload hx hb dL_law_172 (lv_at hl 4 rfl) ?_
          refine lv_iconst (v := 2) hx hb dL_law_174 (by decide) ?_
          refine lv_iadd hx hb dL_law_175 ?_
          replace h := bd h
          obtain ⟨x46, q45, h⟩ := h
          refine r_scr hx hb hX hbl hbA hS q45 dL_law_176 ?_
          refine lv_aload_n hx hb dL_law_177 rfl (lv_at hl 3 rfl) ?_
          replace h := bd h
          obtain ⟨z48, q47, h⟩ := h
          refine c_L_make ⟨hx, hb, hml, hown, hts⟩ hl.1 hK hP hD hA hS hE hNC hl0 wd_470 ⟨(Nat.le_of_ble_eq_true rfl), (Nat.le_of_ble_eq_true rfl)⟩ q47 (Nat.le_of_ble_eq_true rfl) dL_law_178 ⟨(by show (cs + 0) + 3 ≤ 601024; omega), (by show (sl9 + 0) + 18 ≤ 7293034; omega)⟩ (fun H locs hP hD hS => ?_)
          refine lv_istore (lv' := [(5, .int z48.1), (0, .ref b), (1, .ref y23_1), (2, .ref y23_2), (3, .ref y23_3), (4, .int y23_4)]) hx hb dL_law_181 hl (by decide) rfl (fun ls hl => ?_)
          refine lv_aload_n hx hb dL_law_183 rfl (lv_at hl 3 rfl) ?_
          refine lv_aload_n hx hb dL_law_184 rfl (lv_at hl 1 rfl) ?_
          refine lv_iload hx hb dL_law_185 (lv_at hl 5 rfl) ?_
          refine lv_iconst (v := 1) hx hb dL_law_187 (by decide) ?_
          refine lv_iadd hx hb dL_law_188 ?_
          replace h := bd h
          obtain ⟨x50, q49, h⟩ := h
          refine r_scr hx hb hX hbl hbA hS q49 dL_law_189 ?_
          refine lv_aload_n hx hb dL_law_190 rfl (lv_at hl 1 rfl) ?_
          refine lv_iload hx hb dL_law_191 (lv_at hl 5 rfl) ?_
          refine lv_iconst (v := 2) hx hb dL_law_193 (by decide) ?_
          refine lv_iadd hx hb dL_law_194 ?_
          replace h := bd h
          obtain ⟨x52, q51, h⟩ := h
          refine r_scr hx hb hX hbl hbA hS q51 dL_law_195 ?_
          replace h := bd h
          obtain ⟨_, q53, h⟩ := h
          replace h := bd h
          obtain ⟨z55, q54, h⟩ := h
          refine c_X7_make ⟨hx, hb, hml, hown, hts⟩ hl.1 hK hP hD hA hS wd_931 ⟨(Nat.le_of_ble_eq_true rfl), (Nat.le_of_ble_eq_true rfl)⟩ q54 q53 (Nat.le_of_ble_eq_true rfl) dL_law_196 ⟨(by show (cs + 3) + 0 ≤ 601024; omega), (by show (sl9 + 18) + 0 ≤ 7293034; omega)⟩ (fun H locs hP hD hS => ?_)
          refine lv_istore (lv' := [(6, .int z55.1), (5, .int z48.1), (0, .ref b), (1, .ref y23_1), (2, .ref y23_2), (3, .ref y23_3), (4, .int y23_4)]) hx hb dL_law_199 hl (by decide) rfl (fun ls hl => ?_)
          refine lv_aload_n hx hb dL_law_201 rfl (lv_at hl 4 rfl) ?_
          replace h := bd h
          obtain ⟨_, q56, h⟩ := h
          replace h := bd h
          obtain ⟨x58, q57, h⟩ := h
          refine c_X7_thrown ⟨hx, hb, hml, hown, hts⟩ hl.1 hK hP hS wd_927 ⟨(Nat.le_of_ble_eq_true rfl), (Nat.le_of_ble_eq_true rfl)⟩ q57 q56 (Nat.le_of_ble_eq_true rfl) dL_law_202 ⟨(by show (cs + 3) + 0 ≤ 601024; omega), (by show (sl9 + 18) + 0 ≤ 7293034; omega)⟩ (fun H locs hP hS => ?_)
          refine lv_iload hx hb dL_law_205 (lv_at hl 1 rfl) ?_
          refine lv_icmp_eq (tgt := 212) hx hb dL_law_207 (by decide) (fun c59 => ?_) (fun c59 => ?_)
          · replace h := ifp c59 h
            refine lv_iload hx hb dL_law_212 (lv_at hl 1 rfl) ?_
            refine lv_if_ne (tgt := 229) hx hb dL_law_214 (by decide) (fun c60 => ?_) (fun c60 => ?_)
            · replace h := ifn c60 h
              refine lv_goto (tgt := 1781) hx hb dL_law_229 (by decide) ?_
              refine lv_iinc (v := (y23_4 + 5)) (lv' := [(4, .int (y23_4 + 5)), (6, .int z55.1), (5, .int z48.1), (0, .ref b), (1, .ref y23_1), (2, .ref y23_2), (3, .ref y23_3)]) hx hb dL_law_1781 hl (k := 6) rfl rfl (by decide) rfl (fun ls hl => ?_)
              refine lv_goto (tgt := 23) hx hb dL_law_1784 (by decide) ?_
              exact ih z55.2 (y23_4 + 5) _ h (cs + 3) (sl9 + 18) (by omega) (by omega) _ _ _ hP hD hS (lv_sub hl [3, 4, 5, 6, 0] rfl) hret hexit
            · replace h := ifp c60 h
              refine lv_aload_n hx hb dL_law_217 rfl (lv_at hl 5 rfl) ?_
              refine lv_iconst (v := 0) hx hb dL_law_218 (by decide) ?_
              replace h := bd h
              obtain ⟨x61, q62, h⟩ := h
              refine r_aJ hx hb hK hP q62 dL_law_219 ?_
              refine lv_iload hx hb dL_law_220 (lv_at hl 0 rfl) ?_
              refine lv_i2l (v := (Int32.toInt64 z55.1)) hx hb dL_law_222 rfl ?_
              refine W.lcmp hx hb dL_law_223 ?_
              refine lv_if_eq (tgt := 229) hx hb dL_law_224 (by decide) (fun c63 => ?_) (fun c63 => ?_)
              · replace h := ifp c63 h
                refine lv_goto (tgt := 1781) hx hb dL_law_229 (by decide) ?_
                refine lv_iinc (v := (y23_4 + 5)) (lv' := [(4, .int (y23_4 + 5)), (6, .int z55.1), (5, .int z48.1), (0, .ref b), (1, .ref y23_1), (2, .ref y23_2), (3, .ref y23_3)]) hx hb dL_law_1781 hl (k := 6) rfl rfl (by decide) rfl (fun ls hl => ?_)
                refine lv_goto (tgt := 23) hx hb dL_law_1784 (by decide) ?_
                exact ih z55.2 (y23_4 + 5) _ h (cs + 3) (sl9 + 18) (by omega) (by omega) _ _ _ hP hD hS (lv_sub hl [3, 4, 5, 6, 0] rfl) hret hexit
              · replace h := ifn c63 h
                refine lv_iconst (v := 0) hx hb dL_law_227 (by decide) ?_
                cases h
                exact absurd (hret _ rfl) (by decide)
          · replace h := ifn c59 h
            refine lv_iconst (v := 0) hx hb dL_law_210 (by decide) ?_
            cases h
            exact absurd (hret _ rfl) (by decide)
        · replace h := ifn c14 h
          by_cases c15 : (x13 &&& 31) = 1
          · replace h := ifp c15 h
            refine lv_tableIn (off := 193) (tgt := 232) hx hb dL_law_39 (by rw [c15]; decide) (by rw [c15]; decide) (by rw [c15]; rfl) (by decide) ?_
            refine lv_aload_n hx hb dL_law_232 rfl (lv_at hl 1 rfl) ?_
            refine lv_aload_n hx hb dL_law_233 rfl (lv_at hl 3 rfl) ?_
            replace h := bd h
            obtain ⟨z65, q64, h⟩ := h
            refine c_L_read ⟨hx, hb, hml, hown, hts⟩ hl.1 hK hP hD hA hS hE hNC hl0 wd_612 ⟨(Nat.le_of_ble_eq_true rfl), (Nat.le_of_ble_eq_true rfl)⟩ q64 (Nat.le_of_ble_eq_true rfl) dL_law_234 ⟨(by show (cs + 0) + 1 ≤ 601024; omega), (by show (sl9 + 0) + 6 ≤ 7293034; omega)⟩ (fun H locs hP hD hS => ?_)
            refine lv_istore (lv' := [(5, .int z65.1), (0, .ref b), (1, .ref y23_1), (2, .ref y23_2), (3, .ref y23_3), (4, .int y23_4)]) hx hb dL_law_237 hl (by decide) rfl (fun ls hl => ?_)
            refine lv_aload_n hx hb dL_law_239 rfl (lv_at hl 3 rfl) ?_
            replace h := bd h
            obtain ⟨_, q66, h⟩ := h
            replace h := bd h
            obtain ⟨z68, q67, h⟩ := h
            refine c_X7_read ⟨hx, hb, hml, hown, hts⟩ hl.1 hK hP hD hA hS wd_1012 ⟨(Nat.le_of_ble_eq_true rfl), (Nat.le_of_ble_eq_true rfl)⟩ q67 q66 (Nat.le_of_ble_eq_true rfl) dL_law_240 ⟨(by show (cs + 1) + 0 ≤ 601024; omega), (by show (sl9 + 6) + 0 ≤ 7293034; omega)⟩ (fun H locs hP hD hS => ?_)
            refine lv_istore (lv' := [(6, .int z68.1), (5, .int z65.1), (0, .ref b), (1, .ref y23_1), (2, .ref y23_2), (3, .ref y23_3), (4, .int y23_4)]) hx hb dL_law_243 hl (by decide) rfl (fun ls hl => ?_)
            refine lv_aload_n hx hb dL_law_245 rfl (lv_at hl 4 rfl) ?_
            replace h := bd h
            obtain ⟨_, q69, h⟩ := h
            replace h := bd h
            obtain ⟨x71, q70, h⟩ := h
            refine c_X7_thrown ⟨hx, hb, hml, hown, hts⟩ hl.1 hK hP hS wd_927 ⟨(Nat.le_of_ble_eq_true rfl), (Nat.le_of_ble_eq_true rfl)⟩ q70 q69 (Nat.le_of_ble_eq_true rfl) dL_law_246 ⟨(by show (cs + 1) + 0 ≤ 601024; omega), (by show (sl9 + 6) + 0 ≤ 7293034; omega)⟩ (fun H locs hP hS => ?_)
            refine lv_iload hx hb dL_law_249 (lv_at hl 1 rfl) ?_
            refine lv_icmp_eq (tgt := 256) hx hb dL_law_251 (by decide) (fun c72 => ?_) (fun c72 => ?_)
            · replace h := ifp c72 h
              refine lv_iload hx hb dL_law_256 (lv_at hl 1 rfl) ?_
              refine lv_if_ne (tgt := 273) hx hb dL_law_258 (by decide) (fun c73 => ?_) (fun c73 => ?_)
              · replace h := ifn c73 h
                refine lv_goto (tgt := 1781) hx hb dL_law_273 (by decide) ?_
                refine lv_iinc (v := (y23_4 + 5)) (lv' := [(4, .int (y23_4 + 5)), (6, .int z68.1), (5, .int z65.1), (0, .ref b), (1, .ref y23_1), (2, .ref y23_2), (3, .ref y23_3)]) hx hb dL_law_1781 hl (k := 6) rfl rfl (by decide) rfl (fun ls hl => ?_)
                refine lv_goto (tgt := 23) hx hb dL_law_1784 (by decide) ?_
                exact ih z68.2 (y23_4 + 5) _ h (cs + 1) (sl9 + 6) (by omega) (by omega) _ _ _ hP hD hS (lv_sub hl [3, 4, 5, 6, 0] rfl) hret hexit
              · replace h := ifp c73 h
                refine lv_aload_n hx hb dL_law_261 rfl (lv_at hl 5 rfl) ?_
                refine lv_iconst (v := 0) hx hb dL_law_262 (by decide) ?_
                replace h := bd h
                obtain ⟨x74, q75, h⟩ := h
                refine r_aJ hx hb hK hP q75 dL_law_263 ?_
                refine lv_iload hx hb dL_law_264 (lv_at hl 0 rfl) ?_
                refine lv_i2l (v := (Int32.toInt64 z68.1)) hx hb dL_law_266 rfl ?_
                refine W.lcmp hx hb dL_law_267 ?_
                refine lv_if_eq (tgt := 273) hx hb dL_law_268 (by decide) (fun c76 => ?_) (fun c76 => ?_)
                · replace h := ifp c76 h
                  refine lv_goto (tgt := 1781) hx hb dL_law_273 (by decide) ?_
                  refine lv_iinc (v := (y23_4 + 5)) (lv' := [(4, .int (y23_4 + 5)), (6, .int z68.1), (5, .int z65.1), (0, .ref b), (1, .ref y23_1), (2, .ref y23_2), (3, .ref y23_3)]) hx hb dL_law_1781 hl (k := 6) rfl rfl (by decide) rfl (fun ls hl => ?_)
                  refine lv_goto (tgt := 23) hx hb dL_law_1784 (by decide) ?_
                  exact ih z68.2 (y23_4 + 5) _ h (cs + 1) (sl9 + 6) (by omega) (by omega) _ _ _ hP hD hS (lv_sub hl [3, 4, 5, 6, 0] rfl) hret hexit
                · replace h := ifn c76 h
                  refine lv_iconst (v := 0) hx hb dL_law_271 (by decide) ?_
                  cases h
                  exact absurd (hret _ rfl) (by decide)
            · replace h := ifn c72 h
              refine lv_iconst (v := 0) hx hb dL_law_254 (by decide) ?_
              cases h
              exact absurd (hret _ rfl) (by decide)
          · replace h := ifn c15 h
            by_cases c16 : (x13 &&& 31) = 2
            · replace h := ifp c16 h
              refine lv_tableIn (off := 237) (tgt := 276) hx hb dL_law_39 (by rw [c16]; decide) (by rw [c16]; decide) (by rw [c16]; rfl) (by decide) ?_
              refine lv_aload_n hx hb dL_law_276 rfl (lv_at hl 1 rfl) ?_
              refine lv_aload_n hx hb dL_law_277 rfl (lv_at hl 0 rfl) ?_
              refine lv_iload hx hb dL_law_278 (lv_at hl 4 rfl) ?_
              refine lv_iconst (v := 1) hx hb dL_law_280 (by decide) ?_
              refine lv_iadd hx hb dL_law_281 ?_
              replace h := bd h
              obtain ⟨x78, q77, h⟩ := h
              refine r_scr hx hb hX hbl hbA hS q77 dL_law_282 ?_
              refine lv_aload_n hx hb dL_law_283 rfl (lv_at hl 0 rfl) ?_
              refine lv_iload hx hb dL_law_284 (lv_at hl 4 rfl) ?_
              refine lv_iconst (v := 2) hx hb dL_law_286 (by decide) ?_
              refine lv_iadd hx hb dL_law_287 ?_
              replace h := bd h
              obtain ⟨x80, q79, h⟩ := h
              refine r_scr hx hb hX hbl hbA hS q79 dL_law_288 ?_
              refine lv_aload_n hx hb dL_law_289 rfl (lv_at hl 3 rfl) ?_
              replace h := bd h
              obtain ⟨z82, q81, h⟩ := h
              refine c_L_add ⟨hx, hb, hml, hown, hts⟩ hl.1 hK hP hD hA hS hE hNC hl0 wd_630 ⟨(Nat.le_of_ble_eq_true rfl), (Nat.le_of_ble_eq_true rfl)⟩ q81 (Nat.le_of_ble_eq_true rfl) dL_law_290 ⟨(by show (cs + 0) + 3 ≤ 601024; omega), (by show (sl9 + 0) + 18 ≤ 7293034; omega)⟩ (fun H locs hP hD hS => ?_)
              refine lv_istore (lv' := [(5, .int z82.1), (0, .ref b), (1, .ref y23_1), (2, .ref y23_2), (3, .ref y23_3), (4, .int y23_4)]) hx hb dL_law_293 hl (by decide) rfl (fun ls hl => ?_)
              refine lv_aload_n hx hb dL_law_295 rfl (lv_at hl 3 rfl) ?_
              refine lv_aload_n hx hb dL_law_296 rfl (lv_at hl 1 rfl) ?_
              refine lv_iload hx hb dL_law_297 (lv_at hl 5 rfl) ?_
              refine lv_iconst (v := 1) hx hb dL_law_299 (by decide) ?_
              refine lv_iadd hx hb dL_law_300 ?_
              replace h := bd h
              obtain ⟨x84, q83, h⟩ := h
              refine r_scr hx hb hX hbl hbA hS q83 dL_law_301 ?_
              refine lv_aload_n hx hb dL_law_302 rfl (lv_at hl 1 rfl) ?_
              refine lv_iload hx hb dL_law_303 (lv_at hl 5 rfl) ?_
              refine lv_iconst (v := 2) hx hb dL_law_305 (by decide) ?_
              refine lv_iadd hx hb dL_law_306 ?_
              replace h := bd h
              obtain ⟨x86, q85, h⟩ := h
              refine r_scr hx hb hX hbl hbA hS q85 dL_law_307 ?_
              replace h := bd h
              obtain ⟨_, q87, h⟩ := h
              replace h := bd h
              obtain ⟨z89, q88, h⟩ := h
              refine c_X7_add ⟨hx, hb, hml, hown, hts⟩ hl.1 hK hP hD hA hS wd_1040 ⟨(Nat.le_of_ble_eq_true rfl), (Nat.le_of_ble_eq_true rfl)⟩ q88 q87 (Nat.le_of_ble_eq_true rfl) dL_law_308 ⟨(by show (cs + 3) + 0 ≤ 601024; omega), (by show (sl9 + 18) + 0 ≤ 7293034; omega)⟩ (fun H locs hP hD hS => ?_)
              refine lv_istore (lv' := [(6, .int z89.1), (5, .int z82.1), (0, .ref b), (1, .ref y23_1), (2, .ref y23_2), (3, .ref y23_3), (4, .int y23_4)]) hx hb dL_law_311 hl (by decide) rfl (fun ls hl => ?_)
              refine lv_aload_n hx hb dL_law_313 rfl (lv_at hl 4 rfl) ?_
              replace h := bd h
              obtain ⟨_, q90, h⟩ := h
              replace h := bd h
              obtain ⟨x92, q91, h⟩ := h
              refine c_X7_thrown ⟨hx, hb, hml, hown, hts⟩ hl.1 hK hP hS wd_927 ⟨(Nat.le_of_ble_eq_true rfl), (Nat.le_of_ble_eq_true rfl)⟩ q91 q90 (Nat.le_of_ble_eq_true rfl) dL_law_314 ⟨(by show (cs + 3) + 0 ≤ 601024; omega), (by show (sl9 + 18) + 0 ≤ 7293034; omega)⟩ (fun H locs hP hS => ?_)
              refine lv_iload hx hb dL_law_317 (lv_at hl 1 rfl) ?_
              refine lv_icmp_eq (tgt := 324) hx hb dL_law_319 (by decide) (fun c93 => ?_) (fun c93 => ?_)
              · replace h := ifp c93 h
                refine lv_iload hx hb dL_law_324 (lv_at hl 1 rfl) ?_
                refine lv_if_ne (tgt := 341) hx hb dL_law_326 (by decide) (fun c94 => ?_) (fun c94 => ?_)
                · replace h := ifn c94 h
                  refine lv_goto (tgt := 1781) hx hb dL_law_341 (by decide) ?_
                  refine lv_iinc (v := (y23_4 + 5)) (lv' := [(4, .int (y23_4 + 5)), (6, .int z89.1), (5, .int z82.1), (0, .ref b), (1, .ref y23_1), (2, .ref y23_2), (3, .ref y23_3)]) hx hb dL_law_1781 hl (k := 6) rfl rfl (by decide) rfl (fun ls hl => ?_)
                  refine lv_goto (tgt := 23) hx hb dL_law_1784 (by decide) ?_
                  exact ih z89.2 (y23_4 + 5) _ h (cs + 3) (sl9 + 18) (by omega) (by omega) _ _ _ hP hD hS (lv_sub hl [3, 4, 5, 6, 0] rfl) hret hexit
                · replace h := ifp c94 h
                  refine lv_aload_n hx hb dL_law_329 rfl (lv_at hl 5 rfl) ?_
                  refine lv_iconst (v := 0) hx hb dL_law_330 (by decide) ?_
                  replace h := bd h
                  obtain ⟨x95, q96, h⟩ := h
                  refine r_aJ hx hb hK hP q96 dL_law_331 ?_
                  refine lv_iload hx hb dL_law_332 (lv_at hl 0 rfl) ?_
                  refine lv_i2l (v := (Int32.toInt64 z89.1)) hx hb dL_law_334 rfl ?_
                  refine W.lcmp hx hb dL_law_335 ?_
                  refine lv_if_eq (tgt := 341) hx hb dL_law_336 (by decide) (fun c97 => ?_) (fun c97 => ?_)
                  · replace h := ifp c97 h
                    refine lv_goto (tgt := 1781) hx hb dL_law_341 (by decide) ?_
                    refine lv_iinc (v := (y23_4 + 5)) (lv' := [(4, .int (y23_4 + 5)), (6, .int z89.1), (5, .int z82.1), (0, .ref b), (1, .ref y23_1), (2, .ref y23_2), (3, .ref y23_3)]) hx hb dL_law_1781 hl (k := 6) rfl rfl (by decide) rfl (fun ls hl => ?_)
                    refine lv_goto (tgt := 23) hx hb dL_law_1784 (by decide) ?_
                    exact ih z89.2 (y23_4 + 5) _ h (cs + 3) (sl9 + 18) (by omega) (by omega) _ _ _ hP hD hS (lv_sub hl [3, 4, 5, 6, 0] rfl) hret hexit
                  · replace h := ifn c97 h
                    refine lv_iconst (v := 0) hx hb dL_law_339 (by decide) ?_
                    cases h
                    exact absurd (hret _ rfl) (by decide)
              · replace h := ifn c93 h
                refine lv_iconst (v := 0) hx hb dL_law_322 (by decide) ?_
                cases h
                exact absurd (hret _ rfl) (by decide)
            · replace h := ifn c16 h
              by_cases c17 : (x13 &&& 31) = 3
              · replace h := ifp c17 h
                refine lv_tableIn (off := 305) (tgt := 344) hx hb dL_law_39 (by rw [c17]; decide) (by rw [c17]; decide) (by rw [c17]; rfl) (by decide) ?_
                refine lv_aload_n hx hb dL_law_344 rfl (lv_at hl 1 rfl) ?_
                refine lv_aload_n hx hb dL_law_345 rfl (lv_at hl 0 rfl) ?_
                refine lv_iload hx hb dL_law_346 (lv_at hl 4 rfl) ?_
                refine lv_iconst (v := 1) hx hb dL_law_348 (by decide) ?_
                refine lv_iadd hx hb dL_law_349 ?_
                replace h := bd h
                obtain ⟨x99, q98, h⟩ := h
                refine r_scr hx hb hX hbl hbA hS q98 dL_law_350 ?_
                refine lv_aload_n hx hb dL_law_351 rfl (lv_at hl 0 rfl) ?_
                refine lv_iload hx hb dL_law_352 (lv_at hl 4 rfl) ?_
                refine lv_iconst (v := 2) hx hb dL_law_354 (by decide) ?_
                refine lv_iadd hx hb dL_law_355 ?_
                replace h := bd h
                obtain ⟨x101, q100, h⟩ := h
                refine r_scr hx hb hX hbl hbA hS q100 dL_law_356 ?_
                refine lv_aload_n hx hb dL_law_357 rfl (lv_at hl 0 rfl) ?_
                refine lv_iload hx hb dL_law_358 (lv_at hl 4 rfl) ?_
                refine lv_iconst (v := 3) hx hb dL_law_360 (by decide) ?_
                refine lv_iadd hx hb dL_law_361 ?_
                replace h := bd h
                obtain ⟨x103, q102, h⟩ := h
                refine r_scr hx hb hX hbl hbA hS q102 dL_law_362 ?_
                refine lv_aload_n hx hb dL_law_363 rfl (lv_at hl 3 rfl) ?_
                replace h := bd h
                obtain ⟨z105, q104, h⟩ := h
                refine c_L_put ⟨hx, hb, hml, hown, hts⟩ hl.1 hK hP hD hA hS hE hNC hl0 wd_660 ⟨(Nat.le_of_ble_eq_true rfl), (Nat.le_of_ble_eq_true rfl)⟩ q104 (Nat.le_of_ble_eq_true rfl) dL_law_364 ⟨(by show (cs + 0) + 3 ≤ 601024; omega), (by show (sl9 + 0) + 18 ≤ 7293034; omega)⟩ (fun H locs hP hD hS => ?_)
                refine lv_istore (lv' := [(5, .int z105.1), (0, .ref b), (1, .ref y23_1), (2, .ref y23_2), (3, .ref y23_3), (4, .int y23_4)]) hx hb dL_law_367 hl (by decide) rfl (fun ls hl => ?_)
                refine lv_aload_n hx hb dL_law_369 rfl (lv_at hl 3 rfl) ?_
                refine lv_aload_n hx hb dL_law_370 rfl (lv_at hl 1 rfl) ?_
                refine lv_iload hx hb dL_law_371 (lv_at hl 5 rfl) ?_
                refine lv_iconst (v := 1) hx hb dL_law_373 (by decide) ?_
                refine lv_iadd hx hb dL_law_374 ?_
                replace h := bd h
                obtain ⟨x107, q106, h⟩ := h
                refine r_scr hx hb hX hbl hbA hS q106 dL_law_375 ?_
                refine lv_aload_n hx hb dL_law_376 rfl (lv_at hl 1 rfl) ?_
                refine lv_iload hx hb dL_law_377 (lv_at hl 5 rfl) ?_
                refine lv_iconst (v := 2) hx hb dL_law_379 (by decide) ?_
                refine lv_iadd hx hb dL_law_380 ?_
                replace h := bd h
                obtain ⟨x109, q108, h⟩ := h
                refine r_scr hx hb hX hbl hbA hS q108 dL_law_381 ?_
                refine lv_aload_n hx hb dL_law_382 rfl (lv_at hl 1 rfl) ?_
                refine lv_iload hx hb dL_law_383 (lv_at hl 5 rfl) ?_
                refine lv_iconst (v := 3) hx hb dL_law_385 (by decide) ?_
                refine lv_iadd hx hb dL_law_386 ?_
                replace h := bd h
                obtain ⟨x111, q110, h⟩ := h
                refine r_scr hx hb hX hbl hbA hS q110 dL_law_387 ?_
                replace h := bd h
                obtain ⟨_, q112, h⟩ := h
                replace h := bd h
                obtain ⟨z114, q113, h⟩ := h
                refine c_X7_put ⟨hx, hb, hml, hown, hts⟩ hl.1 hK hP hD hA hS wd_1048 ⟨(Nat.le_of_ble_eq_true rfl), (Nat.le_of_ble_eq_true rfl)⟩ q113 q112 (Nat.le_of_ble_eq_true rfl) dL_law_388 ⟨(by show (cs + 3) + 0 ≤ 601024; omega), (by show (sl9 + 18) + 0 ≤ 7293034; omega)⟩ (fun H locs hP hD hS => ?_)
                refine lv_istore (lv' := [(6, .int z114.1), (5, .int z105.1), (0, .ref b), (1, .ref y23_1), (2, .ref y23_2), (3, .ref y23_3), (4, .int y23_4)]) hx hb dL_law_391 hl (by decide) rfl (fun ls hl => ?_)
                refine lv_aload_n hx hb dL_law_393 rfl (lv_at hl 4 rfl) ?_
                replace h := bd h
                obtain ⟨_, q115, h⟩ := h
                replace h := bd h
                obtain ⟨x117, q116, h⟩ := h
                refine c_X7_thrown ⟨hx, hb, hml, hown, hts⟩ hl.1 hK hP hS wd_927 ⟨(Nat.le_of_ble_eq_true rfl), (Nat.le_of_ble_eq_true rfl)⟩ q116 q115 (Nat.le_of_ble_eq_true rfl) dL_law_394 ⟨(by show (cs + 3) + 0 ≤ 601024; omega), (by show (sl9 + 18) + 0 ≤ 7293034; omega)⟩ (fun H locs hP hS => ?_)
                refine lv_iload hx hb dL_law_397 (lv_at hl 1 rfl) ?_
                refine lv_icmp_eq (tgt := 404) hx hb dL_law_399 (by decide) (fun c118 => ?_) (fun c118 => ?_)
                · replace h := ifp c118 h
                  refine lv_iload hx hb dL_law_404 (lv_at hl 1 rfl) ?_
                  refine lv_if_ne (tgt := 421) hx hb dL_law_406 (by decide) (fun c119 => ?_) (fun c119 => ?_)
                  · replace h := ifn c119 h
                    refine lv_goto (tgt := 1781) hx hb dL_law_421 (by decide) ?_
                    refine lv_iinc (v := (y23_4 + 5)) (lv' := [(4, .int (y23_4 + 5)), (6, .int z114.1), (5, .int z105.1), (0, .ref b), (1, .ref y23_1), (2, .ref y23_2), (3, .ref y23_3)]) hx hb dL_law_1781 hl (k := 6) rfl rfl (by decide) rfl (fun ls hl => ?_)
                    refine lv_goto (tgt := 23) hx hb dL_law_1784 (by decide) ?_
                    exact ih z114.2 (y23_4 + 5) _ h (cs + 3) (sl9 + 18) (by omega) (by omega) _ _ _ hP hD hS (lv_sub hl [3, 4, 5, 6, 0] rfl) hret hexit
                  · replace h := ifp c119 h
                    refine lv_aload_n hx hb dL_law_409 rfl (lv_at hl 5 rfl) ?_
                    refine lv_iconst (v := 0) hx hb dL_law_410 (by decide) ?_
                    replace h := bd h
                    obtain ⟨x120, q121, h⟩ := h
                    refine r_aJ hx hb hK hP q121 dL_law_411 ?_
                    refine lv_iload hx hb dL_law_412 (lv_at hl 0 rfl) ?_
                    refine lv_i2l (v := (Int32.toInt64 z114.1)) hx hb dL_law_414 rfl ?_
                    refine W.lcmp hx hb dL_law_415 ?_
                    refine lv_if_eq (tgt := 421) hx hb dL_law_416 (by decide) (fun c122 => ?_) (fun c122 => ?_)
                    · replace h := ifp c122 h
                      refine lv_goto (tgt := 1781) hx hb dL_law_421 (by decide) ?_
                      refine lv_iinc (v := (y23_4 + 5)) (lv' := [(4, .int (y23_4 + 5)), (6, .int z114.1), (5, .int z105.1), (0, .ref b), (1, .ref y23_1), (2, .ref y23_2), (3, .ref y23_3)]) hx hb dL_law_1781 hl (k := 6) rfl rfl (by decide) rfl (fun ls hl => ?_)
                      refine lv_goto (tgt := 23) hx hb dL_law_1784 (by decide) ?_
                      exact ih z114.2 (y23_4 + 5) _ h (cs + 3) (sl9 + 18) (by omega) (by omega) _ _ _ hP hD hS (lv_sub hl [3, 4, 5, 6, 0] rfl) hret hexit
                    · replace h := ifn c122 h
                      refine lv_iconst (v := 0) hx hb dL_law_419 (by decide) ?_
                      cases h
                      exact absurd (hret _ rfl) (by decide)
                · replace h := ifn c118 h
                  refine lv_iconst (v := 0) hx hb dL_law_402 (by decide) ?_
                  cases h
                  exact absurd (hret _ rfl) (by decide)
              · replace h := ifn c17 h
                by_cases c18 : (x13 &&& 31) = 4
                · replace h := ifp c18 h
                  refine lv_tableIn (off := 385) (tgt := 424) hx hb dL_law_39 (by rw [c18]; decide) (by rw [c18]; decide) (by rw [c18]; rfl) (by decide) ?_
                  refine lv_aload_n hx hb dL_law_424 rfl (lv_at hl 1 rfl) ?_
                  refine lv_aload_n hx hb dL_law_425 rfl (lv_at hl 0 rfl) ?_
                  refine lv_iload hx hb dL_law_426 (lv_at hl 4 rfl) ?_
                  refine lv_iconst (v := 1) hx hb dL_law_428 (by decide) ?_
                  refine lv_iadd hx hb dL_law_429 ?_
                  replace h := bd h
                  obtain ⟨x124, q123, h⟩ := h
                  refine r_scr hx hb hX hbl hbA hS q123 dL_law_430 ?_
                  refine lv_aload_n hx hb dL_law_431 rfl (lv_at hl 0 rfl) ?_
                  refine lv_iload hx hb dL_law_432 (lv_at hl 4 rfl) ?_
                  refine lv_iconst (v := 2) hx hb dL_law_434 (by decide) ?_
                  refine lv_iadd hx hb dL_law_435 ?_
                  replace h := bd h
                  obtain ⟨x126, q125, h⟩ := h
                  refine r_scr hx hb hX hbl hbA hS q125 dL_law_436 ?_
                  refine lv_aload_n hx hb dL_law_437 rfl (lv_at hl 3 rfl) ?_
                  replace h := bd h
                  obtain ⟨z128, q127, h⟩ := h
                  refine c_L_take ⟨hx, hb, hml, hown, hts⟩ hl.1 hK hP hD hA hS hE hNC hl0 wd_673 ⟨(Nat.le_of_ble_eq_true rfl), (Nat.le_of_ble_eq_true rfl)⟩ q127 (Nat.le_of_ble_eq_true rfl) dL_law_438 ⟨(by show (cs + 0) + 3 ≤ 601024; omega), (by show (sl9 + 0) + 18 ≤ 7293034; omega)⟩ (fun H locs hP hD hS => ?_)
                  refine lv_istore (lv' := [(5, .int z128.1), (0, .ref b), (1, .ref y23_1), (2, .ref y23_2), (3, .ref y23_3), (4, .int y23_4)]) hx hb dL_law_441 hl (by decide) rfl (fun ls hl => ?_)
                  refine lv_aload_n hx hb dL_law_443 rfl (lv_at hl 3 rfl) ?_
                  refine lv_aload_n hx hb dL_law_444 rfl (lv_at hl 1 rfl) ?_
                  refine lv_iload hx hb dL_law_445 (lv_at hl 5 rfl) ?_
                  refine lv_iconst (v := 1) hx hb dL_law_447 (by decide) ?_
                  refine lv_iadd hx hb dL_law_448 ?_
                  replace h := bd h
                  obtain ⟨x130, q129, h⟩ := h
                  refine r_scr hx hb hX hbl hbA hS q129 dL_law_449 ?_
                  refine lv_aload_n hx hb dL_law_450 rfl (lv_at hl 1 rfl) ?_
                  refine lv_iload hx hb dL_law_451 (lv_at hl 5 rfl) ?_
                  refine lv_iconst (v := 2) hx hb dL_law_453 (by decide) ?_
                  refine lv_iadd hx hb dL_law_454 ?_
                  replace h := bd h
                  obtain ⟨x132, q131, h⟩ := h
                  refine r_scr hx hb hX hbl hbA hS q131 dL_law_455 ?_
                  replace h := bd h
                  obtain ⟨_, q133, h⟩ := h
                  replace h := bd h
                  obtain ⟨z135, q134, h⟩ := h
                  refine c_X7_take ⟨hx, hb, hml, hown, hts⟩ hl.1 hK hP hD hA hS wd_1056 ⟨(Nat.le_of_ble_eq_true rfl), (Nat.le_of_ble_eq_true rfl)⟩ q134 q133 (Nat.le_of_ble_eq_true rfl) dL_law_456 ⟨(by show (cs + 3) + 0 ≤ 601024; omega), (by show (sl9 + 18) + 0 ≤ 7293034; omega)⟩ (fun H locs hP hD hS => ?_)
                  refine lv_istore (lv' := [(6, .int z135.1), (5, .int z128.1), (0, .ref b), (1, .ref y23_1), (2, .ref y23_2), (3, .ref y23_3), (4, .int y23_4)]) hx hb dL_law_459 hl (by decide) rfl (fun ls hl => ?_)
                  refine lv_aload_n hx hb dL_law_461 rfl (lv_at hl 4 rfl) ?_
                  replace h := bd h
                  obtain ⟨_, q136, h⟩ := h
                  replace h := bd h
                  obtain ⟨x138, q137, h⟩ := h
                  refine c_X7_thrown ⟨hx, hb, hml, hown, hts⟩ hl.1 hK hP hS wd_927 ⟨(Nat.le_of_ble_eq_true rfl), (Nat.le_of_ble_eq_true rfl)⟩ q137 q136 (Nat.le_of_ble_eq_true rfl) dL_law_462 ⟨(by show (cs + 3) + 0 ≤ 601024; omega), (by show (sl9 + 18) + 0 ≤ 7293034; omega)⟩ (fun H locs hP hS => ?_)
                  refine lv_iload hx hb dL_law_465 (lv_at hl 1 rfl) ?_
                  refine lv_icmp_eq (tgt := 472) hx hb dL_law_467 (by decide) (fun c139 => ?_) (fun c139 => ?_)
                  · replace h := ifp c139 h
                    refine lv_iload hx hb dL_law_472 (lv_at hl 1 rfl) ?_
                    refine lv_if_ne (tgt := 489) hx hb dL_law_474 (by decide) (fun c140 => ?_) (fun c140 => ?_)
                    · replace h := ifn c140 h
                      refine lv_goto (tgt := 1781) hx hb dL_law_489 (by decide) ?_
                      refine lv_iinc (v := (y23_4 + 5)) (lv' := [(4, .int (y23_4 + 5)), (6, .int z135.1), (5, .int z128.1), (0, .ref b), (1, .ref y23_1), (2, .ref y23_2), (3, .ref y23_3)]) hx hb dL_law_1781 hl (k := 6) rfl rfl (by decide) rfl (fun ls hl => ?_)
                      refine lv_goto (tgt := 23) hx hb dL_law_1784 (by decide) ?_
                      exact ih z135.2 (y23_4 + 5) _ h (cs + 3) (sl9 + 18) (by omega) (by omega) _ _ _ hP hD hS (lv_sub hl [3, 4, 5, 6, 0] rfl) hret hexit
                    · replace h := ifp c140 h
                      refine lv_aload_n hx hb dL_law_477 rfl (lv_at hl 5 rfl) ?_
                      refine lv_iconst (v := 0) hx hb dL_law_478 (by decide) ?_
                      replace h := bd h
                      obtain ⟨x141, q142, h⟩ := h
                      refine r_aJ hx hb hK hP q142 dL_law_479 ?_
                      refine lv_iload hx hb dL_law_480 (lv_at hl 0 rfl) ?_
                      refine lv_i2l (v := (Int32.toInt64 z135.1)) hx hb dL_law_482 rfl ?_
                      refine W.lcmp hx hb dL_law_483 ?_
                      refine lv_if_eq (tgt := 489) hx hb dL_law_484 (by decide) (fun c143 => ?_) (fun c143 => ?_)
                      · replace h := ifp c143 h
                        refine lv_goto (tgt := 1781) hx hb dL_law_489 (by decide) ?_
                        refine lv_iinc (v := (y23_4 + 5)) (lv' := [(4, .int (y23_4 + 5)), (6, .int z135.1), (5, .int z128.1), (0, .ref b), (1, .ref y23_1), (2, .ref y23_2), (3, .ref y23_3)]) hx hb dL_law_1781 hl (k := 6) rfl rfl (by decide) rfl (fun ls hl => ?_)
                        refine lv_goto (tgt := 23) hx hb dL_law_1784 (by decide) ?_
                        exact ih z135.2 (y23_4 + 5) _ h (cs + 3) (sl9 + 18) (by omega) (by omega) _ _ _ hP hD hS (lv_sub hl [3, 4, 5, 6, 0] rfl) hret hexit
                      · replace h := ifn c143 h
                        refine lv_iconst (v := 0) hx hb dL_law_487 (by decide) ?_
                        cases h
                        exact absurd (hret _ rfl) (by decide)
                  · replace h := ifn c139 h
                    refine lv_iconst (v := 0) hx hb dL_law_470 (by decide) ?_
                    cases h
                    exact absurd (hret _ rfl) (by decide)
                · replace h := ifn c18 h
                  by_cases c19 : (x13 &&& 31) = 5
                  · replace h := ifp c19 h
                    refine lv_tableIn (off := 453) (tgt := 492) hx hb dL_law_39 (by rw [c19]; decide) (by rw [c19]; decide) (by rw [c19]; rfl) (by decide) ?_
                    refine lv_aload_n hx hb dL_law_492 rfl (lv_at hl 1 rfl) ?_
                    refine lv_aload_n hx hb dL_law_493 rfl (lv_at hl 0 rfl) ?_
                    refine lv_iload hx hb dL_law_494 (lv_at hl 4 rfl) ?_
                    refine lv_iconst (v := 1) hx hb dL_law_496 (by decide) ?_
                    refine lv_iadd hx hb dL_law_497 ?_
                    replace h := bd h
                    obtain ⟨x145, q144, h⟩ := h
                    refine r_scr hx hb hX hbl hbA hS q144 dL_law_498 ?_
                    refine lv_aload_n hx hb dL_law_499 rfl (lv_at hl 3 rfl) ?_
                    replace h := bd h
                    obtain ⟨z147, q146, h⟩ := h
                    refine c_L_turn ⟨hx, hb, hml, hown, hts⟩ hl.1 hK hP hD hA hS hE hNC hl0 wd_685 ⟨(Nat.le_of_ble_eq_true rfl), (Nat.le_of_ble_eq_true rfl)⟩ q146 (Nat.le_of_ble_eq_true rfl) dL_law_500 ⟨(by show (cs + 0) + 1 ≤ 601024; omega), (by show (sl9 + 0) + 6 ≤ 7293034; omega)⟩ (fun H locs hP hD hS => ?_)
                    refine lv_istore (lv' := [(5, .int z147.1), (0, .ref b), (1, .ref y23_1), (2, .ref y23_2), (3, .ref y23_3), (4, .int y23_4)]) hx hb dL_law_503 hl (by decide) rfl (fun ls hl => ?_)
                    refine lv_aload_n hx hb dL_law_505 rfl (lv_at hl 3 rfl) ?_
                    refine lv_aload_n hx hb dL_law_506 rfl (lv_at hl 1 rfl) ?_
                    refine lv_iload hx hb dL_law_507 (lv_at hl 5 rfl) ?_
                    refine lv_iconst (v := 1) hx hb dL_law_509 (by decide) ?_
                    refine lv_iadd hx hb dL_law_510 ?_
                    replace h := bd h
                    obtain ⟨x149, q148, h⟩ := h
                    refine r_scr hx hb hX hbl hbA hS q148 dL_law_511 ?_
                    replace h := bd h
                    obtain ⟨_, q150, h⟩ := h
                    replace h := bd h
                    obtain ⟨z152, q151, h⟩ := h
                    refine c_X7_turn ⟨hx, hb, hml, hown, hts⟩ hl.1 hK hP hD hA hS wd_1060 ⟨(Nat.le_of_ble_eq_true rfl), (Nat.le_of_ble_eq_true rfl)⟩ q151 q150 (Nat.le_of_ble_eq_true rfl) dL_law_512 ⟨(by show (cs + 1) + 0 ≤ 601024; omega), (by show (sl9 + 6) + 0 ≤ 7293034; omega)⟩ (fun H locs hP hD hS => ?_)
                    refine lv_istore (lv' := [(6, .int z152.1), (5, .int z147.1), (0, .ref b), (1, .ref y23_1), (2, .ref y23_2), (3, .ref y23_3), (4, .int y23_4)]) hx hb dL_law_515 hl (by decide) rfl (fun ls hl => ?_)
                    refine lv_aload_n hx hb dL_law_517 rfl (lv_at hl 4 rfl) ?_
                    replace h := bd h
                    obtain ⟨_, q153, h⟩ := h
                    replace h := bd h
                    obtain ⟨x155, q154, h⟩ := h
                    refine c_X7_thrown ⟨hx, hb, hml, hown, hts⟩ hl.1 hK hP hS wd_927 ⟨(Nat.le_of_ble_eq_true rfl), (Nat.le_of_ble_eq_true rfl)⟩ q154 q153 (Nat.le_of_ble_eq_true rfl) dL_law_518 ⟨(by show (cs + 1) + 0 ≤ 601024; omega), (by show (sl9 + 6) + 0 ≤ 7293034; omega)⟩ (fun H locs hP hS => ?_)
                    refine lv_iload hx hb dL_law_521 (lv_at hl 1 rfl) ?_
                    refine lv_icmp_eq (tgt := 528) hx hb dL_law_523 (by decide) (fun c156 => ?_) (fun c156 => ?_)
                    · replace h := ifp c156 h
                      refine lv_iload hx hb dL_law_528 (lv_at hl 1 rfl) ?_
                      refine lv_if_ne (tgt := 545) hx hb dL_law_530 (by decide) (fun c157 => ?_) (fun c157 => ?_)
                      · replace h := ifn c157 h
                        refine lv_goto (tgt := 1781) hx hb dL_law_545 (by decide) ?_
                        refine lv_iinc (v := (y23_4 + 5)) (lv' := [(4, .int (y23_4 + 5)), (6, .int z152.1), (5, .int z147.1), (0, .ref b), (1, .ref y23_1), (2, .ref y23_2), (3, .ref y23_3)]) hx hb dL_law_1781 hl (k := 6) rfl rfl (by decide) rfl (fun ls hl => ?_)
                        refine lv_goto (tgt := 23) hx hb dL_law_1784 (by decide) ?_
                        exact ih z152.2 (y23_4 + 5) _ h (cs + 1) (sl9 + 6) (by omega) (by omega) _ _ _ hP hD hS (lv_sub hl [3, 4, 5, 6, 0] rfl) hret hexit
                      · replace h := ifp c157 h
                        refine lv_aload_n hx hb dL_law_533 rfl (lv_at hl 5 rfl) ?_
                        refine lv_iconst (v := 0) hx hb dL_law_534 (by decide) ?_
                        replace h := bd h
                        obtain ⟨x158, q159, h⟩ := h
                        refine r_aJ hx hb hK hP q159 dL_law_535 ?_
                        refine lv_iload hx hb dL_law_536 (lv_at hl 0 rfl) ?_
                        refine lv_i2l (v := (Int32.toInt64 z152.1)) hx hb dL_law_538 rfl ?_
                        refine W.lcmp hx hb dL_law_539 ?_
                        refine lv_if_eq (tgt := 545) hx hb dL_law_540 (by decide) (fun c160 => ?_) (fun c160 => ?_)
                        · replace h := ifp c160 h
                          refine lv_goto (tgt := 1781) hx hb dL_law_545 (by decide) ?_
                          refine lv_iinc (v := (y23_4 + 5)) (lv' := [(4, .int (y23_4 + 5)), (6, .int z152.1), (5, .int z147.1), (0, .ref b), (1, .ref y23_1), (2, .ref y23_2), (3, .ref y23_3)]) hx hb dL_law_1781 hl (k := 6) rfl rfl (by decide) rfl (fun ls hl => ?_)
                          refine lv_goto (tgt := 23) hx hb dL_law_1784 (by decide) ?_
                          exact ih z152.2 (y23_4 + 5) _ h (cs + 1) (sl9 + 6) (by omega) (by omega) _ _ _ hP hD hS (lv_sub hl [3, 4, 5, 6, 0] rfl) hret hexit
                        · replace h := ifn c160 h
                          refine lv_iconst (v := 0) hx hb dL_law_543 (by decide) ?_
                          cases h
                          exact absurd (hret _ rfl) (by decide)
                    · replace h := ifn c156 h
                      refine lv_iconst (v := 0) hx hb dL_law_526 (by decide) ?_
                      cases h
                      exact absurd (hret _ rfl) (by decide)
                  · replace h := ifn c19 h
                    by_cases c20 : (x13 &&& 31) = 6
                    · replace h := ifp c20 h
                      refine lv_tableIn (off := 509) (tgt := 548) hx hb dL_law_39 (by rw [c20]; decide) (by rw [c20]; decide) (by rw [c20]; rfl) (by decide) ?_
                      refine lv_aload_n hx hb dL_law_548 rfl (lv_at hl 1 rfl) ?_
                      refine lv_aload_n hx hb dL_law_549 rfl (lv_at hl 0 rfl) ?_
                      refine lv_iload hx hb dL_law_550 (lv_at hl 4 rfl) ?_
                      refine lv_iconst (v := 1) hx hb dL_law_552 (by decide) ?_
                      refine lv_iadd hx hb dL_law_553 ?_
                      replace h := bd h
                      obtain ⟨x162, q161, h⟩ := h
                      refine r_scr hx hb hX hbl hbA hS q161 dL_law_554 ?_
                      refine lv_aload_n hx hb dL_law_555 rfl (lv_at hl 0 rfl) ?_
                      refine lv_iload hx hb dL_law_556 (lv_at hl 4 rfl) ?_
                      refine lv_iconst (v := 2) hx hb dL_law_558 (by decide) ?_
                      refine lv_iadd hx hb dL_law_559 ?_
                      replace h := bd h
                      obtain ⟨x164, q163, h⟩ := h
                      refine r_scr hx hb hX hbl hbA hS q163 dL_law_560 ?_
                      refine lv_aload_n hx hb dL_law_561 rfl (lv_at hl 3 rfl) ?_
                      replace h := bd h
                      obtain ⟨z166, q165, h⟩ := h
                      refine c_L_join ⟨hx, hb, hml, hown, hts⟩ hl.1 hK hP hD hA hS hE hNC hl0 wd_696 ⟨(Nat.le_of_ble_eq_true rfl), (Nat.le_of_ble_eq_true rfl)⟩ q165 (Nat.le_of_ble_eq_true rfl) dL_law_562 ⟨(by show (cs + 0) + 3 ≤ 601024; omega), (by show (sl9 + 0) + 18 ≤ 7293034; omega)⟩ (fun H locs hP hD hS => ?_)
                      refine lv_istore (lv' := [(5, .int z166.1), (0, .ref b), (1, .ref y23_1), (2, .ref y23_2), (3, .ref y23_3), (4, .int y23_4)]) hx hb dL_law_565 hl (by decide) rfl (fun ls hl => ?_)
                      refine lv_aload_n hx hb dL_law_567 rfl (lv_at hl 3 rfl) ?_
                      refine lv_aload_n hx hb dL_law_568 rfl (lv_at hl 1 rfl) ?_
                      refine lv_iload hx hb dL_law_569 (lv_at hl 5 rfl) ?_
                      refine lv_iconst (v := 1) hx hb dL_law_571 (by decide) ?_
                      refine lv_iadd hx hb dL_law_572 ?_
                      replace h := bd h
                      obtain ⟨x168, q167, h⟩ := h
                      refine r_scr hx hb hX hbl hbA hS q167 dL_law_573 ?_
                      refine lv_aload_n hx hb dL_law_574 rfl (lv_at hl 1 rfl) ?_
                      refine lv_iload hx hb dL_law_575 (lv_at hl 5 rfl) ?_
                      refine lv_iconst (v := 2) hx hb dL_law_577 (by decide) ?_
                      refine lv_iadd hx hb dL_law_578 ?_
                      replace h := bd h
                      obtain ⟨x170, q169, h⟩ := h
                      refine r_scr hx hb hX hbl hbA hS q169 dL_law_579 ?_
                      replace h := bd h
                      obtain ⟨_, q171, h⟩ := h
                      replace h := bd h
                      obtain ⟨z173, q172, h⟩ := h
                      refine c_X7_join ⟨hx, hb, hml, hown, hts⟩ hl.1 hK hP hD hA hS wd_1064 ⟨(Nat.le_of_ble_eq_true rfl), (Nat.le_of_ble_eq_true rfl)⟩ q172 q171 (Nat.le_of_ble_eq_true rfl) dL_law_580 ⟨(by show (cs + 3) + 0 ≤ 601024; omega), (by show (sl9 + 18) + 0 ≤ 7293034; omega)⟩ (fun H locs hP hD hS => ?_)
                      refine lv_istore (lv' := [(6, .int z173.1), (5, .int z166.1), (0, .ref b), (1, .ref y23_1), (2, .ref y23_2), (3, .ref y23_3), (4, .int y23_4)]) hx hb dL_law_583 hl (by decide) rfl (fun ls hl => ?_)
                      refine lv_aload_n hx hb dL_law_585 rfl (lv_at hl 4 rfl) ?_
                      replace h := bd h
                      obtain ⟨_, q174, h⟩ := h
                      replace h := bd h
                      obtain ⟨x176, q175, h⟩ := h
                      refine c_X7_thrown ⟨hx, hb, hml, hown, hts⟩ hl.1 hK hP hS wd_927 ⟨(Nat.le_of_ble_eq_true rfl), (Nat.le_of_ble_eq_true rfl)⟩ q175 q174 (Nat.le_of_ble_eq_true rfl) dL_law_586 ⟨(by show (cs + 3) + 0 ≤ 601024; omega), (by show (sl9 + 18) + 0 ≤ 7293034; omega)⟩ (fun H locs hP hS => ?_)
                      refine lv_iload hx hb dL_law_589 (lv_at hl 1 rfl) ?_
                      refine lv_icmp_eq (tgt := 596) hx hb dL_law_591 (by decide) (fun c177 => ?_) (fun c177 => ?_)
                      · replace h := ifp c177 h
                        refine lv_iload hx hb dL_law_596 (lv_at hl 1 rfl) ?_
                        refine lv_if_ne (tgt := 613) hx hb dL_law_598 (by decide) (fun c178 => ?_) (fun c178 => ?_)
                        · replace h := ifn c178 h
                          refine lv_goto (tgt := 1781) hx hb dL_law_613 (by decide) ?_
                          refine lv_iinc (v := (y23_4 + 5)) (lv' := [(4, .int (y23_4 + 5)), (6, .int z173.1), (5, .int z166.1), (0, .ref b), (1, .ref y23_1), (2, .ref y23_2), (3, .ref y23_3)]) hx hb dL_law_1781 hl (k := 6) rfl rfl (by decide) rfl (fun ls hl => ?_)
                          refine lv_goto (tgt := 23) hx hb dL_law_1784 (by decide) ?_
                          exact ih z173.2 (y23_4 + 5) _ h (cs + 3) (sl9 + 18) (by omega) (by omega) _ _ _ hP hD hS (lv_sub hl [3, 4, 5, 6, 0] rfl) hret hexit
                        · replace h := ifp c178 h
                          refine lv_aload_n hx hb dL_law_601 rfl (lv_at hl 5 rfl) ?_
                          refine lv_iconst (v := 0) hx hb dL_law_602 (by decide) ?_
                          replace h := bd h
                          obtain ⟨x179, q180, h⟩ := h
                          refine r_aJ hx hb hK hP q180 dL_law_603 ?_
                          refine lv_iload hx hb dL_law_604 (lv_at hl 0 rfl) ?_
                          refine lv_i2l (v := (Int32.toInt64 z173.1)) hx hb dL_law_606 rfl ?_
                          refine W.lcmp hx hb dL_law_607 ?_
                          refine lv_if_eq (tgt := 613) hx hb dL_law_608 (by decide) (fun c181 => ?_) (fun c181 => ?_)
                          · replace h := ifp c181 h
                            refine lv_goto (tgt := 1781) hx hb dL_law_613 (by decide) ?_
                            refine lv_iinc (v := (y23_4 + 5)) (lv' := [(4, .int (y23_4 + 5)), (6, .int z173.1), (5, .int z166.1), (0, .ref b), (1, .ref y23_1), (2, .ref y23_2), (3, .ref y23_3)]) hx hb dL_law_1781 hl (k := 6) rfl rfl (by decide) rfl (fun ls hl => ?_)
                            refine lv_goto (tgt := 23) hx hb dL_law_1784 (by decide) ?_
                            exact ih z173.2 (y23_4 + 5) _ h (cs + 3) (sl9 + 18) (by omega) (by omega) _ _ _ hP hD hS (lv_sub hl [3, 4, 5, 6, 0] rfl) hret hexit
                          · replace h := ifn c181 h
                            refine lv_iconst (v := 0) hx hb dL_law_611 (by decide) ?_
                            cases h
                            exact absurd (hret _ rfl) (by decide)
                      · replace h := ifn c177 h
                        refine lv_iconst (v := 0) hx hb dL_law_594 (by decide) ?_
                        cases h
                        exact absurd (hret _ rfl) (by decide)
                    · replace h := ifn c20 h
                      by_cases c21 : (x13 &&& 31) = 7
                      · replace h := ifp c21 h
                        refine lv_tableIn (off := 577) (tgt := 616) hx hb dL_law_39 (by rw [c21]; decide) (by rw [c21]; decide) (by rw [c21]; rfl) (by decide) ?_
                        refine lv_aload_n hx hb dL_law_616 rfl (lv_at hl 1 rfl) ?_
                        refine lv_aload_n hx hb dL_law_617 rfl (lv_at hl 0 rfl) ?_
                        refine lv_iload hx hb dL_law_618 (lv_at hl 4 rfl) ?_
                        refine lv_iconst (v := 1) hx hb dL_law_620 (by decide) ?_
                        refine lv_iadd hx hb dL_law_621 ?_
                        replace h := bd h
                        obtain ⟨x183, q182, h⟩ := h
                        refine r_scr hx hb hX hbl hbA hS q182 dL_law_622 ?_
                        refine lv_aload_n hx hb dL_law_623 rfl (lv_at hl 0 rfl) ?_
                        refine lv_iload hx hb dL_law_624 (lv_at hl 4 rfl) ?_
                        refine lv_iconst (v := 2) hx hb dL_law_626 (by decide) ?_
                        refine lv_iadd hx hb dL_law_627 ?_
                        replace h := bd h
                        obtain ⟨x185, q184, h⟩ := h
                        refine r_scr hx hb hX hbl hbA hS q184 dL_law_628 ?_
                        refine lv_aload_n hx hb dL_law_629 rfl (lv_at hl 3 rfl) ?_
                        replace h := bd h
                        obtain ⟨z187, q186, h⟩ := h
                        refine c_L_cut ⟨hx, hb, hml, hown, hts⟩ hl.1 hK hP hD hA hS hE hNC hl0 wd_714 ⟨(Nat.le_of_ble_eq_true rfl), (Nat.le_of_ble_eq_true rfl)⟩ q186 (Nat.le_of_ble_eq_true rfl) dL_law_630 ⟨(by show (cs + 0) + 3 ≤ 601024; omega), (by show (sl9 + 0) + 18 ≤ 7293034; omega)⟩ (fun H locs hP hD hS => ?_)
                        refine lv_istore (lv' := [(5, .int z187.1), (0, .ref b), (1, .ref y23_1), (2, .ref y23_2), (3, .ref y23_3), (4, .int y23_4)]) hx hb dL_law_633 hl (by decide) rfl (fun ls hl => ?_)
                        refine lv_aload_n hx hb dL_law_635 rfl (lv_at hl 3 rfl) ?_
                        refine lv_aload_n hx hb dL_law_636 rfl (lv_at hl 1 rfl) ?_
                        refine lv_iload hx hb dL_law_637 (lv_at hl 5 rfl) ?_
                        refine lv_iconst (v := 1) hx hb dL_law_639 (by decide) ?_
                        refine lv_iadd hx hb dL_law_640 ?_
                        replace h := bd h
                        obtain ⟨x189, q188, h⟩ := h
                        refine r_scr hx hb hX hbl hbA hS q188 dL_law_641 ?_
                        refine lv_aload_n hx hb dL_law_642 rfl (lv_at hl 1 rfl) ?_
                        refine lv_iload hx hb dL_law_643 (lv_at hl 5 rfl) ?_
                        refine lv_iconst (v := 2) hx hb dL_law_645 (by decide) ?_
                        refine lv_iadd hx hb dL_law_646 ?_
                        replace h := bd h
                        obtain ⟨x191, q190, h⟩ := h
                        refine r_scr hx hb hX hbl hbA hS q190 dL_law_647 ?_
                        replace h := bd h
                        obtain ⟨_, q192, h⟩ := h
                        replace h := bd h
                        obtain ⟨z194, q193, h⟩ := h
                        refine c_X7_cut ⟨hx, hb, hml, hown, hts⟩ hl.1 hK hP hD hA hS wd_1080 ⟨(Nat.le_of_ble_eq_true rfl), (Nat.le_of_ble_eq_true rfl)⟩ q193 q192 (Nat.le_of_ble_eq_true rfl) dL_law_648 ⟨(by show (cs + 3) + 0 ≤ 601024; omega), (by show (sl9 + 18) + 0 ≤ 7293034; omega)⟩ (fun H locs hP hD hS => ?_)
                        refine lv_istore (lv' := [(6, .int z194.1), (5, .int z187.1), (0, .ref b), (1, .ref y23_1), (2, .ref y23_2), (3, .ref y23_3), (4, .int y23_4)]) hx hb dL_law_651 hl (by decide) rfl (fun ls hl => ?_)
                        refine lv_aload_n hx hb dL_law_653 rfl (lv_at hl 4 rfl) ?_
                        replace h := bd h
                        obtain ⟨_, q195, h⟩ := h
                        replace h := bd h
                        obtain ⟨x197, q196, h⟩ := h
                        refine c_X7_thrown ⟨hx, hb, hml, hown, hts⟩ hl.1 hK hP hS wd_927 ⟨(Nat.le_of_ble_eq_true rfl), (Nat.le_of_ble_eq_true rfl)⟩ q196 q195 (Nat.le_of_ble_eq_true rfl) dL_law_654 ⟨(by show (cs + 3) + 0 ≤ 601024; omega), (by show (sl9 + 18) + 0 ≤ 7293034; omega)⟩ (fun H locs hP hS => ?_)
                        refine lv_iload hx hb dL_law_657 (lv_at hl 1 rfl) ?_
                        refine lv_icmp_eq (tgt := 664) hx hb dL_law_659 (by decide) (fun c198 => ?_) (fun c198 => ?_)
                        · replace h := ifp c198 h
                          refine lv_iload hx hb dL_law_664 (lv_at hl 1 rfl) ?_
                          refine lv_if_ne (tgt := 681) hx hb dL_law_666 (by decide) (fun c199 => ?_) (fun c199 => ?_)
                          · replace h := ifn c199 h
                            refine lv_goto (tgt := 1781) hx hb dL_law_681 (by decide) ?_
                            refine lv_iinc (v := (y23_4 + 5)) (lv' := [(4, .int (y23_4 + 5)), (6, .int z194.1), (5, .int z187.1), (0, .ref b), (1, .ref y23_1), (2, .ref y23_2), (3, .ref y23_3)]) hx hb dL_law_1781 hl (k := 6) rfl rfl (by decide) rfl (fun ls hl => ?_)
                            refine lv_goto (tgt := 23) hx hb dL_law_1784 (by decide) ?_
                            exact ih z194.2 (y23_4 + 5) _ h (cs + 3) (sl9 + 18) (by omega) (by omega) _ _ _ hP hD hS (lv_sub hl [3, 4, 5, 6, 0] rfl) hret hexit
                          · replace h := ifp c199 h
                            refine lv_aload_n hx hb dL_law_669 rfl (lv_at hl 5 rfl) ?_
                            refine lv_iconst (v := 0) hx hb dL_law_670 (by decide) ?_
                            replace h := bd h
                            obtain ⟨x200, q201, h⟩ := h
                            refine r_aJ hx hb hK hP q201 dL_law_671 ?_
                            refine lv_iload hx hb dL_law_672 (lv_at hl 0 rfl) ?_
                            refine lv_i2l (v := (Int32.toInt64 z194.1)) hx hb dL_law_674 rfl ?_
                            refine W.lcmp hx hb dL_law_675 ?_
                            refine lv_if_eq (tgt := 681) hx hb dL_law_676 (by decide) (fun c202 => ?_) (fun c202 => ?_)
                            · replace h := ifp c202 h
                              refine lv_goto (tgt := 1781) hx hb dL_law_681 (by decide) ?_
                              refine lv_iinc (v := (y23_4 + 5)) (lv' := [(4, .int (y23_4 + 5)), (6, .int z194.1), (5, .int z187.1), (0, .ref b), (1, .ref y23_1), (2, .ref y23_2), (3, .ref y23_3)]) hx hb dL_law_1781 hl (k := 6) rfl rfl (by decide) rfl (fun ls hl => ?_)
                              refine lv_goto (tgt := 23) hx hb dL_law_1784 (by decide) ?_
                              exact ih z194.2 (y23_4 + 5) _ h (cs + 3) (sl9 + 18) (by omega) (by omega) _ _ _ hP hD hS (lv_sub hl [3, 4, 5, 6, 0] rfl) hret hexit
                            · replace h := ifn c202 h
                              refine lv_iconst (v := 0) hx hb dL_law_679 (by decide) ?_
                              cases h
                              exact absurd (hret _ rfl) (by decide)
                        · replace h := ifn c198 h
                          refine lv_iconst (v := 0) hx hb dL_law_662 (by decide) ?_
                          cases h
                          exact absurd (hret _ rfl) (by decide)
                      · replace h := ifn c21 h
                        by_cases c22 : (x13 &&& 31) = 8
                        · replace h := ifp c22 h
                          refine lv_tableIn (off := 645) (tgt := 684) hx hb dL_law_39 (by rw [c22]; decide) (by rw [c22]; decide) (by rw [c22]; rfl) (by decide) ?_
                          refine lv_aload_n hx hb dL_law_684 rfl (lv_at hl 1 rfl) ?_
                          refine lv_aload_n hx hb dL_law_685 rfl (lv_at hl 0 rfl) ?_
                          refine lv_iload hx hb dL_law_686 (lv_at hl 4 rfl) ?_
                          refine lv_iconst (v := 1) hx hb dL_law_688 (by decide) ?_
                          refine lv_iadd hx hb dL_law_689 ?_
                          replace h := bd h
                          obtain ⟨x204, q203, h⟩ := h
                          refine r_scr hx hb hX hbl hbA hS q203 dL_law_690 ?_
                          refine lv_aload_n hx hb dL_law_691 rfl (lv_at hl 3 rfl) ?_
                          replace h := bd h
                          obtain ⟨z206, q205, h⟩ := h
                          refine c_L_pass ⟨hx, hb, hml, hown, hts⟩ hl.1 hK hP hD hA hS hE hNC hl0 wd_726 ⟨(Nat.le_of_ble_eq_true rfl), (Nat.le_of_ble_eq_true rfl)⟩ q205 (Nat.le_of_ble_eq_true rfl) dL_law_692 ⟨(by show (cs + 0) + 2 ≤ 601024; omega), (by show (sl9 + 0) + 12 ≤ 7293034; omega)⟩ (fun H locs hP hD hS => ?_)
                          refine lv_istore (lv' := [(5, .int z206.1), (0, .ref b), (1, .ref y23_1), (2, .ref y23_2), (3, .ref y23_3), (4, .int y23_4)]) hx hb dL_law_695 hl (by decide) rfl (fun ls hl => ?_)
                          refine lv_aload_n hx hb dL_law_697 rfl (lv_at hl 3 rfl) ?_
                          refine lv_aload_n hx hb dL_law_698 rfl (lv_at hl 1 rfl) ?_
                          refine lv_iload hx hb dL_law_699 (lv_at hl 5 rfl) ?_
                          refine lv_iconst (v := 1) hx hb dL_law_701 (by decide) ?_
                          refine lv_iadd hx hb dL_law_702 ?_
                          replace h := bd h
                          obtain ⟨x208, q207, h⟩ := h
                          refine r_scr hx hb hX hbl hbA hS q207 dL_law_703 ?_
                          replace h := bd h
                          obtain ⟨_, q209, h⟩ := h
                          replace h := bd h
                          obtain ⟨z211, q210, h⟩ := h
                          refine c_X7_pass ⟨hx, hb, hml, hown, hts⟩ hl.1 hK hP hD hA hS wd_1084 ⟨(Nat.le_of_ble_eq_true rfl), (Nat.le_of_ble_eq_true rfl)⟩ q210 q209 (Nat.le_of_ble_eq_true rfl) dL_law_704 ⟨(by show (cs + 2) + 0 ≤ 601024; omega), (by show (sl9 + 12) + 0 ≤ 7293034; omega)⟩ (fun H locs hP hD hS => ?_)
                          refine lv_istore (lv' := [(6, .int z211.1), (5, .int z206.1), (0, .ref b), (1, .ref y23_1), (2, .ref y23_2), (3, .ref y23_3), (4, .int y23_4)]) hx hb dL_law_707 hl (by decide) rfl (fun ls hl => ?_)
                          refine lv_aload_n hx hb dL_law_709 rfl (lv_at hl 4 rfl) ?_
                          replace h := bd h
                          obtain ⟨_, q212, h⟩ := h
                          replace h := bd h
                          obtain ⟨x214, q213, h⟩ := h
                          refine c_X7_thrown ⟨hx, hb, hml, hown, hts⟩ hl.1 hK hP hS wd_927 ⟨(Nat.le_of_ble_eq_true rfl), (Nat.le_of_ble_eq_true rfl)⟩ q213 q212 (Nat.le_of_ble_eq_true rfl) dL_law_710 ⟨(by show (cs + 2) + 0 ≤ 601024; omega), (by show (sl9 + 12) + 0 ≤ 7293034; omega)⟩ (fun H locs hP hS => ?_)
                          refine lv_iload hx hb dL_law_713 (lv_at hl 1 rfl) ?_
                          refine lv_icmp_eq (tgt := 720) hx hb dL_law_715 (by decide) (fun c215 => ?_) (fun c215 => ?_)
                          · replace h := ifp c215 h
                            refine lv_iload hx hb dL_law_720 (lv_at hl 1 rfl) ?_
                            refine lv_if_ne (tgt := 737) hx hb dL_law_722 (by decide) (fun c216 => ?_) (fun c216 => ?_)
                            · replace h := ifn c216 h
                              refine lv_goto (tgt := 1781) hx hb dL_law_737 (by decide) ?_
                              refine lv_iinc (v := (y23_4 + 5)) (lv' := [(4, .int (y23_4 + 5)), (6, .int z211.1), (5, .int z206.1), (0, .ref b), (1, .ref y23_1), (2, .ref y23_2), (3, .ref y23_3)]) hx hb dL_law_1781 hl (k := 6) rfl rfl (by decide) rfl (fun ls hl => ?_)
                              refine lv_goto (tgt := 23) hx hb dL_law_1784 (by decide) ?_
                              exact ih z211.2 (y23_4 + 5) _ h (cs + 2) (sl9 + 12) (by omega) (by omega) _ _ _ hP hD hS (lv_sub hl [3, 4, 5, 6, 0] rfl) hret hexit
                            · replace h := ifp c216 h
                              refine lv_aload_n hx hb dL_law_725 rfl (lv_at hl 5 rfl) ?_
                              refine lv_iconst (v := 0) hx hb dL_law_726 (by decide) ?_
                              replace h := bd h
                              obtain ⟨x217, q218, h⟩ := h
                              refine r_aJ hx hb hK hP q218 dL_law_727 ?_
                              refine lv_iload hx hb dL_law_728 (lv_at hl 0 rfl) ?_
                              refine lv_i2l (v := (Int32.toInt64 z211.1)) hx hb dL_law_730 rfl ?_
                              refine W.lcmp hx hb dL_law_731 ?_
                              refine lv_if_eq (tgt := 737) hx hb dL_law_732 (by decide) (fun c219 => ?_) (fun c219 => ?_)
                              · replace h := ifp c219 h
                                refine lv_goto (tgt := 1781) hx hb dL_law_737 (by decide) ?_
                                refine lv_iinc (v := (y23_4 + 5)) (lv' := [(4, .int (y23_4 + 5)), (6, .int z211.1), (5, .int z206.1), (0, .ref b), (1, .ref y23_1), (2, .ref y23_2), (3, .ref y23_3)]) hx hb dL_law_1781 hl (k := 6) rfl rfl (by decide) rfl (fun ls hl => ?_)
                                refine lv_goto (tgt := 23) hx hb dL_law_1784 (by decide) ?_
                                exact ih z211.2 (y23_4 + 5) _ h (cs + 2) (sl9 + 12) (by omega) (by omega) _ _ _ hP hD hS (lv_sub hl [3, 4, 5, 6, 0] rfl) hret hexit
                              · replace h := ifn c219 h
                                refine lv_iconst (v := 0) hx hb dL_law_735 (by decide) ?_
                                cases h
                                exact absurd (hret _ rfl) (by decide)
                          · replace h := ifn c215 h
                            refine lv_iconst (v := 0) hx hb dL_law_718 (by decide) ?_
                            cases h
                            exact absurd (hret _ rfl) (by decide)
                        · replace h := ifn c22 h
                          by_cases c23 : (x13 &&& 31) = 9
                          · replace h := ifp c23 h
                            refine lv_tableIn (off := 701) (tgt := 740) hx hb dL_law_39 (by rw [c23]; decide) (by rw [c23]; decide) (by rw [c23]; rfl) (by decide) ?_
                            refine lv_aload_n hx hb dL_law_740 rfl (lv_at hl 1 rfl) ?_
                            refine lv_aload_n hx hb dL_law_741 rfl (lv_at hl 0 rfl) ?_
                            refine lv_iload hx hb dL_law_742 (lv_at hl 4 rfl) ?_
                            refine lv_iconst (v := 1) hx hb dL_law_744 (by decide) ?_
                            refine lv_iadd hx hb dL_law_745 ?_
                            replace h := bd h
                            obtain ⟨x221, q220, h⟩ := h
                            refine r_scr hx hb hX hbl hbA hS q220 dL_law_746 ?_
                            refine lv_aload_n hx hb dL_law_747 rfl (lv_at hl 3 rfl) ?_
                            replace h := bd h
                            obtain ⟨z223, q222, h⟩ := h
                            refine c_L_breakVow ⟨hx, hb, hml, hown, hts⟩ hl.1 hK hP hD hA hS hE hNC hl0 wd_744 ⟨(Nat.le_of_ble_eq_true rfl), (Nat.le_of_ble_eq_true rfl)⟩ q222 (Nat.le_of_ble_eq_true rfl) dL_law_748 ⟨(by show (cs + 0) + 1 ≤ 601024; omega), (by show (sl9 + 0) + 6 ≤ 7293034; omega)⟩ (fun H locs hP hD hS => ?_)
                            refine lv_istore (lv' := [(5, .int z223.1), (0, .ref b), (1, .ref y23_1), (2, .ref y23_2), (3, .ref y23_3), (4, .int y23_4)]) hx hb dL_law_751 hl (by decide) rfl (fun ls hl => ?_)
                            refine lv_aload_n hx hb dL_law_753 rfl (lv_at hl 3 rfl) ?_
                            refine lv_aload_n hx hb dL_law_754 rfl (lv_at hl 1 rfl) ?_
                            refine lv_iload hx hb dL_law_755 (lv_at hl 5 rfl) ?_
                            refine lv_iconst (v := 1) hx hb dL_law_757 (by decide) ?_
                            refine lv_iadd hx hb dL_law_758 ?_
                            replace h := bd h
                            obtain ⟨x225, q224, h⟩ := h
                            refine r_scr hx hb hX hbl hbA hS q224 dL_law_759 ?_
                            replace h := bd h
                            obtain ⟨_, q226, h⟩ := h
                            replace h := bd h
                            obtain ⟨z228, q227, h⟩ := h
                            refine c_X7_breakVow ⟨hx, hb, hml, hown, hts⟩ hl.1 hK hP hD hA hS wd_1096 ⟨(Nat.le_of_ble_eq_true rfl), (Nat.le_of_ble_eq_true rfl)⟩ q227 q226 (Nat.le_of_ble_eq_true rfl) dL_law_760 ⟨(by show (cs + 1) + 0 ≤ 601024; omega), (by show (sl9 + 6) + 0 ≤ 7293034; omega)⟩ (fun H locs hP hD hS => ?_)
                            refine lv_istore (lv' := [(6, .int z228.1), (5, .int z223.1), (0, .ref b), (1, .ref y23_1), (2, .ref y23_2), (3, .ref y23_3), (4, .int y23_4)]) hx hb dL_law_763 hl (by decide) rfl (fun ls hl => ?_)
                            refine lv_aload_n hx hb dL_law_765 rfl (lv_at hl 4 rfl) ?_
                            replace h := bd h
                            obtain ⟨_, q229, h⟩ := h
                            replace h := bd h
                            obtain ⟨x231, q230, h⟩ := h
                            refine c_X7_thrown ⟨hx, hb, hml, hown, hts⟩ hl.1 hK hP hS wd_927 ⟨(Nat.le_of_ble_eq_true rfl), (Nat.le_of_ble_eq_true rfl)⟩ q230 q229 (Nat.le_of_ble_eq_true rfl) dL_law_766 ⟨(by show (cs + 1) + 0 ≤ 601024; omega), (by show (sl9 + 6) + 0 ≤ 7293034; omega)⟩ (fun H locs hP hS => ?_)
                            refine lv_iload hx hb dL_law_769 (lv_at hl 1 rfl) ?_
                            refine lv_icmp_eq (tgt := 776) hx hb dL_law_771 (by decide) (fun c232 => ?_) (fun c232 => ?_)
                            · replace h := ifp c232 h
                              refine lv_iload hx hb dL_law_776 (lv_at hl 1 rfl) ?_
                              refine lv_if_ne (tgt := 793) hx hb dL_law_778 (by decide) (fun c233 => ?_) (fun c233 => ?_)
                              · replace h := ifn c233 h
                                refine lv_goto (tgt := 1781) hx hb dL_law_793 (by decide) ?_
                                refine lv_iinc (v := (y23_4 + 5)) (lv' := [(4, .int (y23_4 + 5)), (6, .int z228.1), (5, .int z223.1), (0, .ref b), (1, .ref y23_1), (2, .ref y23_2), (3, .ref y23_3)]) hx hb dL_law_1781 hl (k := 6) rfl rfl (by decide) rfl (fun ls hl => ?_)
                                refine lv_goto (tgt := 23) hx hb dL_law_1784 (by decide) ?_
                                exact ih z228.2 (y23_4 + 5) _ h (cs + 1) (sl9 + 6) (by omega) (by omega) _ _ _ hP hD hS (lv_sub hl [3, 4, 5, 6, 0] rfl) hret hexit
                              · replace h := ifp c233 h
                                refine lv_aload_n hx hb dL_law_781 rfl (lv_at hl 5 rfl) ?_
                                refine lv_iconst (v := 0) hx hb dL_law_782 (by decide) ?_
                                replace h := bd h
                                obtain ⟨x234, q235, h⟩ := h
                                refine r_aJ hx hb hK hP q235 dL_law_783 ?_
                                refine lv_iload hx hb dL_law_784 (lv_at hl 0 rfl) ?_
                                refine lv_i2l (v := (Int32.toInt64 z228.1)) hx hb dL_law_786 rfl ?_
                                refine W.lcmp hx hb dL_law_787 ?_
                                refine lv_if_eq (tgt := 793) hx hb dL_law_788 (by decide) (fun c236 => ?_) (fun c236 => ?_)
                                · replace h := ifp c236 h
                                  refine lv_goto (tgt := 1781) hx hb dL_law_793 (by decide) ?_
                                  refine lv_iinc (v := (y23_4 + 5)) (lv' := [(4, .int (y23_4 + 5)), (6, .int z228.1), (5, .int z223.1), (0, .ref b), (1, .ref y23_1), (2, .ref y23_2), (3, .ref y23_3)]) hx hb dL_law_1781 hl (k := 6) rfl rfl (by decide) rfl (fun ls hl => ?_)
                                  refine lv_goto (tgt := 23) hx hb dL_law_1784 (by decide) ?_
                                  exact ih z228.2 (y23_4 + 5) _ h (cs + 1) (sl9 + 6) (by omega) (by omega) _ _ _ hP hD hS (lv_sub hl [3, 4, 5, 6, 0] rfl) hret hexit
                                · replace h := ifn c236 h
                                  refine lv_iconst (v := 0) hx hb dL_law_791 (by decide) ?_
                                  cases h
                                  exact absurd (hret _ rfl) (by decide)
                            · replace h := ifn c232 h
                              refine lv_iconst (v := 0) hx hb dL_law_774 (by decide) ?_
                              cases h
                              exact absurd (hret _ rfl) (by decide)
                          · replace h := ifn c23 h
                            by_cases c24 : (x13 &&& 31) = 10
                            · replace h := ifp c24 h
                              refine lv_tableIn (off := 757) (tgt := 796) hx hb dL_law_39 (by rw [c24]; decide) (by rw [c24]; decide) (by rw [c24]; rfl) (by decide) ?_
                              refine lv_aload_n hx hb dL_law_796 rfl (lv_at hl 1 rfl) ?_
                              refine lv_aload_n hx hb dL_law_797 rfl (lv_at hl 0 rfl) ?_
                              refine lv_iload hx hb dL_law_798 (lv_at hl 4 rfl) ?_
                              refine lv_iconst (v := 1) hx hb dL_law_800 (by decide) ?_
                              refine lv_iadd hx hb dL_law_801 ?_
                              replace h := bd h
                              obtain ⟨x238, q237, h⟩ := h
                              refine r_scr hx hb hX hbl hbA hS q237 dL_law_802 ?_
                              refine lv_aload_n hx hb dL_law_803 rfl (lv_at hl 0 rfl) ?_
                              refine lv_iload hx hb dL_law_804 (lv_at hl 4 rfl) ?_
                              refine lv_iconst (v := 2) hx hb dL_law_806 (by decide) ?_
                              refine lv_iadd hx hb dL_law_807 ?_
                              replace h := bd h
                              obtain ⟨x240, q239, h⟩ := h
                              refine r_scr hx hb hX hbl hbA hS q239 dL_law_808 ?_
                              refine lv_aload_n hx hb dL_law_809 rfl (lv_at hl 0 rfl) ?_
                              refine lv_iload hx hb dL_law_810 (lv_at hl 4 rfl) ?_
                              refine lv_iconst (v := 3) hx hb dL_law_812 (by decide) ?_
                              refine lv_iadd hx hb dL_law_813 ?_
                              replace h := bd h
                              obtain ⟨x242, q241, h⟩ := h
                              refine r_scr hx hb hX hbl hbA hS q241 dL_law_814 ?_
                              refine lv_aload_n hx hb dL_law_815 rfl (lv_at hl 3 rfl) ?_
                              replace h := bd h
                              obtain ⟨z244, q243, h⟩ := h
                              refine c_L_ask ⟨hx, hb, hml, hown, hts⟩ hl.1 hK hP hD hA hS hE hNC hl0 wd_752 ⟨(Nat.le_of_ble_eq_true rfl), (Nat.le_of_ble_eq_true rfl)⟩ q243 (Nat.le_of_ble_eq_true rfl) dL_law_816 ⟨(by show (cs + 0) + 3 ≤ 601024; omega), (by show (sl9 + 0) + 18 ≤ 7293034; omega)⟩ (fun H locs hP hD hS => ?_)
                              refine lv_istore (lv' := [(5, .int z244.1), (0, .ref b), (1, .ref y23_1), (2, .ref y23_2), (3, .ref y23_3), (4, .int y23_4)]) hx hb dL_law_819 hl (by decide) rfl (fun ls hl => ?_)
                              refine lv_aload_n hx hb dL_law_821 rfl (lv_at hl 3 rfl) ?_
                              refine lv_aload_n hx hb dL_law_822 rfl (lv_at hl 1 rfl) ?_
                              refine lv_iload hx hb dL_law_823 (lv_at hl 5 rfl) ?_
                              refine lv_iconst (v := 1) hx hb dL_law_825 (by decide) ?_
                              refine lv_iadd hx hb dL_law_826 ?_
                              replace h := bd h
                              obtain ⟨x246, q245, h⟩ := h
                              refine r_scr hx hb hX hbl hbA hS q245 dL_law_827 ?_
                              refine lv_aload_n hx hb dL_law_828 rfl (lv_at hl 1 rfl) ?_
                              refine lv_iload hx hb dL_law_829 (lv_at hl 5 rfl) ?_
                              refine lv_iconst (v := 2) hx hb dL_law_831 (by decide) ?_
                              refine lv_iadd hx hb dL_law_832 ?_
                              replace h := bd h
                              obtain ⟨x248, q247, h⟩ := h
                              refine r_scr hx hb hX hbl hbA hS q247 dL_law_833 ?_
                              refine lv_aload_n hx hb dL_law_834 rfl (lv_at hl 1 rfl) ?_
                              refine lv_iload hx hb dL_law_835 (lv_at hl 5 rfl) ?_
                              refine lv_iconst (v := 3) hx hb dL_law_837 (by decide) ?_
                              refine lv_iadd hx hb dL_law_838 ?_
                              replace h := bd h
                              obtain ⟨x250, q249, h⟩ := h
                              refine r_scr hx hb hX hbl hbA hS q249 dL_law_839 ?_
                              replace h := bd h
                              obtain ⟨_, q251, h⟩ := h
                              replace h := bd h
                              obtain ⟨z253, q252, h⟩ := h
                              refine c_X7_ask ⟨hx, hb, hml, hown, hts⟩ hl.1 hK hP hD hA hS wd_1108 ⟨(Nat.le_of_ble_eq_true rfl), (Nat.le_of_ble_eq_true rfl)⟩ q252 q251 (Nat.le_of_ble_eq_true rfl) dL_law_840 ⟨(by show (cs + 3) + 0 ≤ 601024; omega), (by show (sl9 + 18) + 0 ≤ 7293034; omega)⟩ (fun H locs hP hD hS => ?_)
                              refine lv_istore (lv' := [(6, .int z253.1), (5, .int z244.1), (0, .ref b), (1, .ref y23_1), (2, .ref y23_2), (3, .ref y23_3), (4, .int y23_4)]) hx hb dL_law_843 hl (by decide) rfl (fun ls hl => ?_)
                              refine lv_aload_n hx hb dL_law_845 rfl (lv_at hl 4 rfl) ?_
                              replace h := bd h
                              obtain ⟨_, q254, h⟩ := h
                              replace h := bd h
                              obtain ⟨x256, q255, h⟩ := h
                              refine c_X7_thrown ⟨hx, hb, hml, hown, hts⟩ hl.1 hK hP hS wd_927 ⟨(Nat.le_of_ble_eq_true rfl), (Nat.le_of_ble_eq_true rfl)⟩ q255 q254 (Nat.le_of_ble_eq_true rfl) dL_law_846 ⟨(by show (cs + 3) + 0 ≤ 601024; omega), (by show (sl9 + 18) + 0 ≤ 7293034; omega)⟩ (fun H locs hP hS => ?_)
                              refine lv_iload hx hb dL_law_849 (lv_at hl 1 rfl) ?_
                              refine lv_icmp_eq (tgt := 856) hx hb dL_law_851 (by decide) (fun c257 => ?_) (fun c257 => ?_)
                              · replace h := ifp c257 h
                                refine lv_iload hx hb dL_law_856 (lv_at hl 1 rfl) ?_
                                refine lv_if_ne (tgt := 873) hx hb dL_law_858 (by decide) (fun c258 => ?_) (fun c258 => ?_)
                                · replace h := ifn c258 h
                                  refine lv_goto (tgt := 1781) hx hb dL_law_873 (by decide) ?_
                                  refine lv_iinc (v := (y23_4 + 5)) (lv' := [(4, .int (y23_4 + 5)), (6, .int z253.1), (5, .int z244.1), (0, .ref b), (1, .ref y23_1), (2, .ref y23_2), (3, .ref y23_3)]) hx hb dL_law_1781 hl (k := 6) rfl rfl (by decide) rfl (fun ls hl => ?_)
                                  refine lv_goto (tgt := 23) hx hb dL_law_1784 (by decide) ?_
                                  exact ih z253.2 (y23_4 + 5) _ h (cs + 3) (sl9 + 18) (by omega) (by omega) _ _ _ hP hD hS (lv_sub hl [3, 4, 5, 6, 0] rfl) hret hexit
                                · replace h := ifp c258 h
                                  refine lv_aload_n hx hb dL_law_861 rfl (lv_at hl 5 rfl) ?_
                                  refine lv_iconst (v := 0) hx hb dL_law_862 (by decide) ?_
                                  replace h := bd h
                                  obtain ⟨x259, q260, h⟩ := h
                                  refine r_aJ hx hb hK hP q260 dL_law_863 ?_
                                  refine lv_iload hx hb dL_law_864 (lv_at hl 0 rfl) ?_
                                  refine lv_i2l (v := (Int32.toInt64 z253.1)) hx hb dL_law_866 rfl ?_
                                  refine W.lcmp hx hb dL_law_867 ?_
                                  refine lv_if_eq (tgt := 873) hx hb dL_law_868 (by decide) (fun c261 => ?_) (fun c261 => ?_)
                                  · replace h := ifp c261 h
                                    refine lv_goto (tgt := 1781) hx hb dL_law_873 (by decide) ?_
                                    refine lv_iinc (v := (y23_4 + 5)) (lv' := [(4, .int (y23_4 + 5)), (6, .int z253.1), (5, .int z244.1), (0, .ref b), (1, .ref y23_1), (2, .ref y23_2), (3, .ref y23_3)]) hx hb dL_law_1781 hl (k := 6) rfl rfl (by decide) rfl (fun ls hl => ?_)
                                    refine lv_goto (tgt := 23) hx hb dL_law_1784 (by decide) ?_
                                    exact ih z253.2 (y23_4 + 5) _ h (cs + 3) (sl9 + 18) (by omega) (by omega) _ _ _ hP hD hS (lv_sub hl [3, 4, 5, 6, 0] rfl) hret hexit
                                  · replace h := ifn c261 h
                                    refine lv_iconst (v := 0) hx hb dL_law_871 (by decide) ?_
                                    cases h
                                    exact absurd (hret _ rfl) (by decide)
                              · replace h := ifn c257 h
                                refine lv_iconst (v := 0) hx hb dL_law_854 (by decide) ?_
                                cases h
                                exact absurd (hret _ rfl) (by decide)
                            · replace h := ifn c24 h
                              by_cases c25 : (x13 &&& 31) = 11
                              · replace h := ifp c25 h
                                refine lv_tableIn (off := 837) (tgt := 876) hx hb dL_law_39 (by rw [c25]; decide) (by rw [c25]; decide) (by rw [c25]; rfl) (by decide) ?_
                                refine lv_aload_n hx hb dL_law_876 rfl (lv_at hl 1 rfl) ?_
                                refine lv_aload_n hx hb dL_law_877 rfl (lv_at hl 0 rfl) ?_
                                refine lv_iload hx hb dL_law_878 (lv_at hl 4 rfl) ?_
                                refine lv_iconst (v := 1) hx hb dL_law_880 (by decide) ?_
                                refine lv_iadd hx hb dL_law_881 ?_
                                replace h := bd h
                                obtain ⟨x263, q262, h⟩ := h
                                refine r_scr hx hb hX hbl hbA hS q262 dL_law_882 ?_
                                refine lv_aload_n hx hb dL_law_883 rfl (lv_at hl 0 rfl) ?_
                                refine lv_iload hx hb dL_law_884 (lv_at hl 4 rfl) ?_
                                refine lv_iconst (v := 2) hx hb dL_law_886 (by decide) ?_
                                refine lv_iadd hx hb dL_law_887 ?_
                                replace h := bd h
                                obtain ⟨x265, q264, h⟩ := h
                                refine r_scr hx hb hX hbl hbA hS q264 dL_law_888 ?_
                                refine lv_aload_n hx hb dL_law_889 rfl (lv_at hl 3 rfl) ?_
                                replace h := bd h
                                obtain ⟨z267, q266, h⟩ := h
                                refine c_L_set ⟨hx, hb, hml, hown, hts⟩ hl.1 hK hP hD hA hS hE hNC hl0 wd_770 ⟨(Nat.le_of_ble_eq_true rfl), (Nat.le_of_ble_eq_true rfl)⟩ q266 (Nat.le_of_ble_eq_true rfl) dL_law_890 ⟨(by show (cs + 0) + 2 ≤ 601024; omega), (by show (sl9 + 0) + 12 ≤ 7293034; omega)⟩ (fun H locs hP hD hS => ?_)
                                refine lv_istore (lv' := [(5, .int z267.1), (0, .ref b), (1, .ref y23_1), (2, .ref y23_2), (3, .ref y23_3), (4, .int y23_4)]) hx hb dL_law_893 hl (by decide) rfl (fun ls hl => ?_)
                                refine lv_aload_n hx hb dL_law_895 rfl (lv_at hl 3 rfl) ?_
                                refine lv_aload_n hx hb dL_law_896 rfl (lv_at hl 1 rfl) ?_
                                refine lv_iload hx hb dL_law_897 (lv_at hl 5 rfl) ?_
                                refine lv_iconst (v := 1) hx hb dL_law_899 (by decide) ?_
                                refine lv_iadd hx hb dL_law_900 ?_
                                replace h := bd h
                                obtain ⟨x269, q268, h⟩ := h
                                refine r_scr hx hb hX hbl hbA hS q268 dL_law_901 ?_
                                refine lv_aload_n hx hb dL_law_902 rfl (lv_at hl 1 rfl) ?_
                                refine lv_iload hx hb dL_law_903 (lv_at hl 5 rfl) ?_
                                refine lv_iconst (v := 2) hx hb dL_law_905 (by decide) ?_
                                refine lv_iadd hx hb dL_law_906 ?_
                                replace h := bd h
                                obtain ⟨x271, q270, h⟩ := h
                                refine r_scr hx hb hX hbl hbA hS q270 dL_law_907 ?_
                                replace h := bd h
                                obtain ⟨_, q272, h⟩ := h
                                replace h := bd h
                                obtain ⟨z274, q273, h⟩ := h
                                refine c_X7_set ⟨hx, hb, hml, hown, hts⟩ hl.1 hK hP hD hA hS wd_1123 ⟨(Nat.le_of_ble_eq_true rfl), (Nat.le_of_ble_eq_true rfl)⟩ q273 q272 (Nat.le_of_ble_eq_true rfl) dL_law_908 ⟨(by show (cs + 2) + 0 ≤ 601024; omega), (by show (sl9 + 12) + 0 ≤ 7293034; omega)⟩ (fun H locs hP hD hS => ?_)
                                refine lv_istore (lv' := [(6, .int z274.1), (5, .int z267.1), (0, .ref b), (1, .ref y23_1), (2, .ref y23_2), (3, .ref y23_3), (4, .int y23_4)]) hx hb dL_law_911 hl (by decide) rfl (fun ls hl => ?_)
                                refine lv_aload_n hx hb dL_law_913 rfl (lv_at hl 4 rfl) ?_
                                replace h := bd h
                                obtain ⟨_, q275, h⟩ := h
                                replace h := bd h
                                obtain ⟨x277, q276, h⟩ := h
                                refine c_X7_thrown ⟨hx, hb, hml, hown, hts⟩ hl.1 hK hP hS wd_927 ⟨(Nat.le_of_ble_eq_true rfl), (Nat.le_of_ble_eq_true rfl)⟩ q276 q275 (Nat.le_of_ble_eq_true rfl) dL_law_914 ⟨(by show (cs + 2) + 0 ≤ 601024; omega), (by show (sl9 + 12) + 0 ≤ 7293034; omega)⟩ (fun H locs hP hS => ?_)
                                refine lv_iload hx hb dL_law_917 (lv_at hl 1 rfl) ?_
                                refine lv_icmp_eq (tgt := 924) hx hb dL_law_919 (by decide) (fun c278 => ?_) (fun c278 => ?_)
                                · replace h := ifp c278 h
                                  refine lv_iload hx hb dL_law_924 (lv_at hl 1 rfl) ?_
                                  refine lv_if_ne (tgt := 941) hx hb dL_law_926 (by decide) (fun c279 => ?_) (fun c279 => ?_)
                                  · replace h := ifn c279 h
                                    refine lv_goto (tgt := 1781) hx hb dL_law_941 (by decide) ?_
                                    refine lv_iinc (v := (y23_4 + 5)) (lv' := [(4, .int (y23_4 + 5)), (6, .int z274.1), (5, .int z267.1), (0, .ref b), (1, .ref y23_1), (2, .ref y23_2), (3, .ref y23_3)]) hx hb dL_law_1781 hl (k := 6) rfl rfl (by decide) rfl (fun ls hl => ?_)
                                    refine lv_goto (tgt := 23) hx hb dL_law_1784 (by decide) ?_
                                    exact ih z274.2 (y23_4 + 5) _ h (cs + 2) (sl9 + 12) (by omega) (by omega) _ _ _ hP hD hS (lv_sub hl [3, 4, 5, 6, 0] rfl) hret hexit
                                  · replace h := ifp c279 h
                                    refine lv_aload_n hx hb dL_law_929 rfl (lv_at hl 5 rfl) ?_
                                    refine lv_iconst (v := 0) hx hb dL_law_930 (by decide) ?_
                                    replace h := bd h
                                    obtain ⟨x280, q281, h⟩ := h
                                    refine r_aJ hx hb hK hP q281 dL_law_931 ?_
                                    refine lv_iload hx hb dL_law_932 (lv_at hl 0 rfl) ?_
                                    refine lv_i2l (v := (Int32.toInt64 z274.1)) hx hb dL_law_934 rfl ?_
                                    refine W.lcmp hx hb dL_law_935 ?_
                                    refine lv_if_eq (tgt := 941) hx hb dL_law_936 (by decide) (fun c282 => ?_) (fun c282 => ?_)
                                    · replace h := ifp c282 h
                                      refine lv_goto (tgt := 1781) hx hb dL_law_941 (by decide) ?_
                                      refine lv_iinc (v := (y23_4 + 5)) (lv' := [(4, .int (y23_4 + 5)), (6, .int z274.1), (5, .int z267.1), (0, .ref b), (1, .ref y23_1), (2, .ref y23_2), (3, .ref y23_3)]) hx hb dL_law_1781 hl (k := 6) rfl rfl (by decide) rfl (fun ls hl => ?_)
                                      refine lv_goto (tgt := 23) hx hb dL_law_1784 (by decide) ?_
                                      exact ih z274.2 (y23_4 + 5) _ h (cs + 2) (sl9 + 12) (by omega) (by omega) _ _ _ hP hD hS (lv_sub hl [3, 4, 5, 6, 0] rfl) hret hexit
                                    · replace h := ifn c282 h
                                      refine lv_iconst (v := 0) hx hb dL_law_939 (by decide) ?_
                                      cases h
                                      exact absurd (hret _ rfl) (by decide)
                                · replace h := ifn c278 h
                                  refine lv_iconst (v := 0) hx hb dL_law_922 (by decide) ?_
                                  cases h
                                  exact absurd (hret _ rfl) (by decide)
                              · replace h := ifn c25 h
                                by_cases c26 : (x13 &&& 31) = 12
                                · replace h := ifp c26 h
                                  refine lv_tableIn (off := 905) (tgt := 944) hx hb dL_law_39 (by rw [c26]; decide) (by rw [c26]; decide) (by rw [c26]; rfl) (by decide) ?_
                                  refine lv_aload_n hx hb dL_law_944 rfl (lv_at hl 1 rfl) ?_
                                  refine lv_aload_n hx hb dL_law_945 rfl (lv_at hl 0 rfl) ?_
                                  refine lv_iload hx hb dL_law_946 (lv_at hl 4 rfl) ?_
                                  refine lv_iconst (v := 1) hx hb dL_law_948 (by decide) ?_
                                  refine lv_iadd hx hb dL_law_949 ?_
                                  replace h := bd h
                                  obtain ⟨x284, q283, h⟩ := h
                                  refine r_scr hx hb hX hbl hbA hS q283 dL_law_950 ?_
                                  refine lv_aload_n hx hb dL_law_951 rfl (lv_at hl 3 rfl) ?_
                                  replace h := bd h
                                  obtain ⟨z286, q285, h⟩ := h
                                  refine c_L_append ⟨hx, hb, hml, hown, hts⟩ hl.1 hK hP hD hA hS hE hNC hl0 wd_782 ⟨(Nat.le_of_ble_eq_true rfl), (Nat.le_of_ble_eq_true rfl)⟩ q285 (Nat.le_of_ble_eq_true rfl) dL_law_952 ⟨(by show (cs + 0) + 2 ≤ 601024; omega), (by show (sl9 + 0) + 12 ≤ 7293034; omega)⟩ (fun H locs hP hD hS => ?_)
                                  refine lv_istore (lv' := [(5, .int z286.1), (0, .ref b), (1, .ref y23_1), (2, .ref y23_2), (3, .ref y23_3), (4, .int y23_4)]) hx hb dL_law_955 hl (by decide) rfl (fun ls hl => ?_)
                                  refine lv_aload_n hx hb dL_law_957 rfl (lv_at hl 3 rfl) ?_
                                  refine lv_aload_n hx hb dL_law_958 rfl (lv_at hl 1 rfl) ?_
                                  refine lv_iload hx hb dL_law_959 (lv_at hl 5 rfl) ?_
                                  refine lv_iconst (v := 1) hx hb dL_law_961 (by decide) ?_
                                  refine lv_iadd hx hb dL_law_962 ?_
                                  replace h := bd h
                                  obtain ⟨x288, q287, h⟩ := h
                                  refine r_scr hx hb hX hbl hbA hS q287 dL_law_963 ?_
                                  replace h := bd h
                                  obtain ⟨_, q289, h⟩ := h
                                  replace h := bd h
                                  obtain ⟨z291, q290, h⟩ := h
                                  refine c_X7_append ⟨hx, hb, hml, hown, hts⟩ hl.1 hK hP hD hA hS wd_1130 ⟨(Nat.le_of_ble_eq_true rfl), (Nat.le_of_ble_eq_true rfl)⟩ q290 q289 (Nat.le_of_ble_eq_true rfl) dL_law_964 ⟨(by show (cs + 2) + 0 ≤ 601024; omega), (by show (sl9 + 12) + 0 ≤ 7293034; omega)⟩ (fun H locs hP hD hS => ?_)
                                  refine lv_istore (lv' := [(6, .int z291.1), (5, .int z286.1), (0, .ref b), (1, .ref y23_1), (2, .ref y23_2), (3, .ref y23_3), (4, .int y23_4)]) hx hb dL_law_967 hl (by decide) rfl (fun ls hl => ?_)
                                  refine lv_aload_n hx hb dL_law_969 rfl (lv_at hl 4 rfl) ?_
                                  replace h := bd h
                                  obtain ⟨_, q292, h⟩ := h
                                  replace h := bd h
                                  obtain ⟨x294, q293, h⟩ := h
                                  refine c_X7_thrown ⟨hx, hb, hml, hown, hts⟩ hl.1 hK hP hS wd_927 ⟨(Nat.le_of_ble_eq_true rfl), (Nat.le_of_ble_eq_true rfl)⟩ q293 q292 (Nat.le_of_ble_eq_true rfl) dL_law_970 ⟨(by show (cs + 2) + 0 ≤ 601024; omega), (by show (sl9 + 12) + 0 ≤ 7293034; omega)⟩ (fun H locs hP hS => ?_)
                                  refine lv_iload hx hb dL_law_973 (lv_at hl 1 rfl) ?_
                                  refine lv_icmp_eq (tgt := 980) hx hb dL_law_975 (by decide) (fun c295 => ?_) (fun c295 => ?_)
                                  · replace h := ifp c295 h
                                    refine lv_iload hx hb dL_law_980 (lv_at hl 1 rfl) ?_
                                    refine lv_if_ne (tgt := 997) hx hb dL_law_982 (by decide) (fun c296 => ?_) (fun c296 => ?_)
                                    · replace h := ifn c296 h
                                      refine lv_goto (tgt := 1781) hx hb dL_law_997 (by decide) ?_
                                      refine lv_iinc (v := (y23_4 + 5)) (lv' := [(4, .int (y23_4 + 5)), (6, .int z291.1), (5, .int z286.1), (0, .ref b), (1, .ref y23_1), (2, .ref y23_2), (3, .ref y23_3)]) hx hb dL_law_1781 hl (k := 6) rfl rfl (by decide) rfl (fun ls hl => ?_)
                                      refine lv_goto (tgt := 23) hx hb dL_law_1784 (by decide) ?_
                                      exact ih z291.2 (y23_4 + 5) _ h (cs + 2) (sl9 + 12) (by omega) (by omega) _ _ _ hP hD hS (lv_sub hl [3, 4, 5, 6, 0] rfl) hret hexit
                                    · replace h := ifp c296 h
                                      refine lv_aload_n hx hb dL_law_985 rfl (lv_at hl 5 rfl) ?_
                                      refine lv_iconst (v := 0) hx hb dL_law_986 (by decide) ?_
                                      replace h := bd h
                                      obtain ⟨x297, q298, h⟩ := h
                                      refine r_aJ hx hb hK hP q298 dL_law_987 ?_
                                      refine lv_iload hx hb dL_law_988 (lv_at hl 0 rfl) ?_
                                      refine lv_i2l (v := (Int32.toInt64 z291.1)) hx hb dL_law_990 rfl ?_
                                      refine W.lcmp hx hb dL_law_991 ?_
                                      refine lv_if_eq (tgt := 997) hx hb dL_law_992 (by decide) (fun c299 => ?_) (fun c299 => ?_)
                                      · replace h := ifp c299 h
                                        refine lv_goto (tgt := 1781) hx hb dL_law_997 (by decide) ?_
                                        refine lv_iinc (v := (y23_4 + 5)) (lv' := [(4, .int (y23_4 + 5)), (6, .int z291.1), (5, .int z286.1), (0, .ref b), (1, .ref y23_1), (2, .ref y23_2), (3, .ref y23_3)]) hx hb dL_law_1781 hl (k := 6) rfl rfl (by decide) rfl (fun ls hl => ?_)
                                        refine lv_goto (tgt := 23) hx hb dL_law_1784 (by decide) ?_
                                        exact ih z291.2 (y23_4 + 5) _ h (cs + 2) (sl9 + 12) (by omega) (by omega) _ _ _ hP hD hS (lv_sub hl [3, 4, 5, 6, 0] rfl) hret hexit
                                      · replace h := ifn c299 h
                                        refine lv_iconst (v := 0) hx hb dL_law_995 (by decide) ?_
                                        cases h
                                        exact absurd (hret _ rfl) (by decide)
                                  · replace h := ifn c295 h
                                    refine lv_iconst (v := 0) hx hb dL_law_978 (by decide) ?_
                                    cases h
                                    exact absurd (hret _ rfl) (by decide)
                                · replace h := ifn c26 h
                                  by_cases c27 : (x13 &&& 31) = 13
                                  · replace h := ifp c27 h
                                    refine lv_tableIn (off := 961) (tgt := 1000) hx hb dL_law_39 (by rw [c27]; decide) (by rw [c27]; decide) (by rw [c27]; rfl) (by decide) ?_
                                    refine lv_aload_n hx hb dL_law_1000 rfl (lv_at hl 1 rfl) ?_
                                    replace h := bd h
                                    obtain ⟨_, q300, h⟩ := h
                                    replace h := bd h
                                    obtain ⟨z302, q301, h⟩ := h
                                    refine c_X6_clearBuffer ⟨hx, hb, hml, hown, hts⟩ hl.1 hK hP hD hA hS wd_227 ⟨(Nat.le_of_ble_eq_true rfl), (Nat.le_of_ble_eq_true rfl)⟩ q301 q300 (Nat.le_of_ble_eq_true rfl) dL_law_1001 ⟨(by show (cs + 0) + 0 ≤ 601024; omega), (by show (sl9 + 0) + 0 ≤ 7293034; omega)⟩ (fun H locs hP hD hS => ?_)
                                    refine lv_aload_n hx hb dL_law_1004 rfl (lv_at hl 2 rfl) ?_
                                    replace h := bd h
                                    obtain ⟨_, q303, h⟩ := h
                                    replace h := bd h
                                    obtain ⟨z305, q304, h⟩ := h
                                    refine c_X7_clearBuffer ⟨hx, hb, hml, hown, hts⟩ hl.1 hK hP hD hA hS wd_1134 ⟨(Nat.le_of_ble_eq_true rfl), (Nat.le_of_ble_eq_true rfl)⟩ q304 q303 (Nat.le_of_ble_eq_true rfl) dL_law_1005 ⟨(by show (cs + 0) + 0 ≤ 601024; omega), (by show (sl9 + 0) + 0 ≤ 7293034; omega)⟩ (fun H locs hP hD hS => ?_)
                                    refine lv_icmp_eq (tgt := 1781) hx hb dL_law_1008 (by decide) (fun c306 => ?_) (fun c306 => ?_)
                                    · replace h := ifp c306 h
                                      refine lv_iinc (v := (y23_4 + 5)) (lv' := [(4, .int (y23_4 + 5)), (0, .ref b), (1, .ref y23_1), (2, .ref y23_2), (3, .ref y23_3)]) hx hb dL_law_1781 hl (k := 4) rfl rfl (by decide) rfl (fun ls hl => ?_)
                                      refine lv_goto (tgt := 23) hx hb dL_law_1784 (by decide) ?_
                                      exact ih z305.2 (y23_4 + 5) _ h (cs + 0) (sl9 + 0) (by omega) (by omega) _ _ _ hP hD hS (lv_sub hl [1, 2, 3, 4, 0] rfl) hret hexit
                                    · replace h := ifn c306 h
                                      refine lv_iconst (v := 0) hx hb dL_law_1011 (by decide) ?_
                                      cases h
                                      exact absurd (hret _ rfl) (by decide)
                                  · replace h := ifn c27 h
                                    by_cases c28 : (x13 &&& 31) = 14
                                    · replace h := ifp c28 h
                                      refine lv_tableIn (off := 974) (tgt := 1013) hx hb dL_law_39 (by rw [c28]; decide) (by rw [c28]; decide) (by rw [c28]; rfl) (by decide) ?_
                                      refine lv_aload_n hx hb dL_law_1013 rfl (lv_at hl 1 rfl) ?_
                                      replace h := bd h
                                      obtain ⟨_, q307, h⟩ := h
                                      replace h := bd h
                                      obtain ⟨z309, q308, h⟩ := h
                                      refine c_X6_firstError ⟨hx, hb, hml, hown, hts⟩ hl.1 hK hP hD hA hS wd_239 ⟨(Nat.le_of_ble_eq_true rfl), (Nat.le_of_ble_eq_true rfl)⟩ q308 q307 (Nat.le_of_ble_eq_true rfl) dL_law_1014 ⟨(by show (cs + 0) + 0 ≤ 601024; omega), (by show (sl9 + 0) + 0 ≤ 7293034; omega)⟩ (fun H locs hP hD hS => ?_)
                                      refine lv_aload_n hx hb dL_law_1017 rfl (lv_at hl 2 rfl) ?_
                                      replace h := bd h
                                      obtain ⟨_, q310, h⟩ := h
                                      replace h := bd h
                                      obtain ⟨z312, q311, h⟩ := h
                                      refine c_X7_firstError ⟨hx, hb, hml, hown, hts⟩ hl.1 hK hP hD hA hS wd_1138 ⟨(Nat.le_of_ble_eq_true rfl), (Nat.le_of_ble_eq_true rfl)⟩ q311 q310 (Nat.le_of_ble_eq_true rfl) dL_law_1018 ⟨(by show (cs + 0) + 0 ≤ 601024; omega), (by show (sl9 + 0) + 0 ≤ 7293034; omega)⟩ (fun H locs hP hD hS => ?_)
                                      refine lv_icmp_eq (tgt := 1781) hx hb dL_law_1021 (by decide) (fun c313 => ?_) (fun c313 => ?_)
                                      · replace h := ifp c313 h
                                        refine lv_iinc (v := (y23_4 + 5)) (lv' := [(4, .int (y23_4 + 5)), (0, .ref b), (1, .ref y23_1), (2, .ref y23_2), (3, .ref y23_3)]) hx hb dL_law_1781 hl (k := 4) rfl rfl (by decide) rfl (fun ls hl => ?_)
                                        refine lv_goto (tgt := 23) hx hb dL_law_1784 (by decide) ?_
                                        exact ih z312.2 (y23_4 + 5) _ h (cs + 0) (sl9 + 0) (by omega) (by omega) _ _ _ hP hD hS (lv_sub hl [1, 2, 3, 4, 0] rfl) hret hexit
                                      · replace h := ifn c313 h
                                        refine lv_iconst (v := 0) hx hb dL_law_1024 (by decide) ?_
                                        cases h
                                        exact absurd (hret _ rfl) (by decide)
                                    · replace h := ifn c28 h
                                      by_cases c29 : (x13 &&& 31) = 15
                                      · replace h := ifp c29 h
                                        refine lv_tableIn (off := 987) (tgt := 1026) hx hb dL_law_39 (by rw [c29]; decide) (by rw [c29]; decide) (by rw [c29]; rfl) (by decide) ?_
                                        refine lv_aload_n hx hb dL_law_1026 rfl (lv_at hl 1 rfl) ?_
                                        refine lv_aload_n hx hb dL_law_1027 rfl (lv_at hl 3 rfl) ?_
                                        replace h := bd h
                                        obtain ⟨z315, q314, h⟩ := h
                                        refine c_L_undo ⟨hx, hb, hml, hown, hts⟩ hl.1 hK hP hD hA hS hE hNC hl0 wd_799 ⟨(Nat.le_of_ble_eq_true rfl), (Nat.le_of_ble_eq_true rfl)⟩ q314 (Nat.le_of_ble_eq_true rfl) dL_law_1028 ⟨(by show (cs + 0) + 1 ≤ 601024; omega), (by show (sl9 + 0) + 6 ≤ 7293034; omega)⟩ (fun H locs hP hD hS => ?_)
                                        refine lv_istore (lv' := [(5, .int z315.1), (0, .ref b), (1, .ref y23_1), (2, .ref y23_2), (3, .ref y23_3), (4, .int y23_4)]) hx hb dL_law_1031 hl (by decide) rfl (fun ls hl => ?_)
                                        refine lv_aload_n hx hb dL_law_1033 rfl (lv_at hl 3 rfl) ?_
                                        replace h := bd h
                                        obtain ⟨_, q316, h⟩ := h
                                        replace h := bd h
                                        obtain ⟨z318, q317, h⟩ := h
                                        refine c_X7_undo ⟨hx, hb, hml, hown, hts⟩ hl.1 hK hP hD hA hS wd_1142 ⟨(Nat.le_of_ble_eq_true rfl), (Nat.le_of_ble_eq_true rfl)⟩ q317 q316 (Nat.le_of_ble_eq_true rfl) dL_law_1034 ⟨(by show (cs + 1) + 0 ≤ 601024; omega), (by show (sl9 + 6) + 0 ≤ 7293034; omega)⟩ (fun H locs hP hD hS => ?_)
                                        refine lv_istore (lv' := [(6, .int z318.1), (5, .int z315.1), (0, .ref b), (1, .ref y23_1), (2, .ref y23_2), (3, .ref y23_3), (4, .int y23_4)]) hx hb dL_law_1037 hl (by decide) rfl (fun ls hl => ?_)
                                        refine lv_aload_n hx hb dL_law_1039 rfl (lv_at hl 4 rfl) ?_
                                        replace h := bd h
                                        obtain ⟨_, q319, h⟩ := h
                                        replace h := bd h
                                        obtain ⟨x321, q320, h⟩ := h
                                        refine c_X7_thrown ⟨hx, hb, hml, hown, hts⟩ hl.1 hK hP hS wd_927 ⟨(Nat.le_of_ble_eq_true rfl), (Nat.le_of_ble_eq_true rfl)⟩ q320 q319 (Nat.le_of_ble_eq_true rfl) dL_law_1040 ⟨(by show (cs + 1) + 0 ≤ 601024; omega), (by show (sl9 + 6) + 0 ≤ 7293034; omega)⟩ (fun H locs hP hS => ?_)
                                        refine lv_iload hx hb dL_law_1043 (lv_at hl 1 rfl) ?_
                                        refine lv_icmp_eq (tgt := 1050) hx hb dL_law_1045 (by decide) (fun c322 => ?_) (fun c322 => ?_)
                                        · replace h := ifp c322 h
                                          refine lv_iload hx hb dL_law_1050 (lv_at hl 1 rfl) ?_
                                          refine lv_if_ne (tgt := 1067) hx hb dL_law_1052 (by decide) (fun c323 => ?_) (fun c323 => ?_)
                                          · replace h := ifn c323 h
                                            refine lv_goto (tgt := 1781) hx hb dL_law_1067 (by decide) ?_
                                            refine lv_iinc (v := (y23_4 + 5)) (lv' := [(4, .int (y23_4 + 5)), (6, .int z318.1), (5, .int z315.1), (0, .ref b), (1, .ref y23_1), (2, .ref y23_2), (3, .ref y23_3)]) hx hb dL_law_1781 hl (k := 6) rfl rfl (by decide) rfl (fun ls hl => ?_)
                                            refine lv_goto (tgt := 23) hx hb dL_law_1784 (by decide) ?_
                                            exact ih z318.2 (y23_4 + 5) _ h (cs + 1) (sl9 + 6) (by omega) (by omega) _ _ _ hP hD hS (lv_sub hl [3, 4, 5, 6, 0] rfl) hret hexit
                                          · replace h := ifp c323 h
                                            refine lv_aload_n hx hb dL_law_1055 rfl (lv_at hl 5 rfl) ?_
                                            refine lv_iconst (v := 0) hx hb dL_law_1056 (by decide) ?_
                                            replace h := bd h
                                            obtain ⟨x324, q325, h⟩ := h
                                            refine r_aJ hx hb hK hP q325 dL_law_1057 ?_
                                            refine lv_iload hx hb dL_law_1058 (lv_at hl 0 rfl) ?_
                                            refine lv_i2l (v := (Int32.toInt64 z318.1)) hx hb dL_law_1060 rfl ?_
                                            refine W.lcmp hx hb dL_law_1061 ?_
                                            refine lv_if_eq (tgt := 1067) hx hb dL_law_1062 (by decide) (fun c326 => ?_) (fun c326 => ?_)
                                            · replace h := ifp c326 h
                                              refine lv_goto (tgt := 1781) hx hb dL_law_1067 (by decide) ?_
                                              refine lv_iinc (v := (y23_4 + 5)) (lv' := [(4, .int (y23_4 + 5)), (6, .int z318.1), (5, .int z315.1), (0, .ref b), (1, .ref y23_1), (2, .ref y23_2), (3, .ref y23_3)]) hx hb dL_law_1781 hl (k := 6) rfl rfl (by decide) rfl (fun ls hl => ?_)
                                              refine lv_goto (tgt := 23) hx hb dL_law_1784 (by decide) ?_
                                              exact ih z318.2 (y23_4 + 5) _ h (cs + 1) (sl9 + 6) (by omega) (by omega) _ _ _ hP hD hS (lv_sub hl [3, 4, 5, 6, 0] rfl) hret hexit
                                            · replace h := ifn c326 h
                                              refine lv_iconst (v := 0) hx hb dL_law_1065 (by decide) ?_
                                              cases h
                                              exact absurd (hret _ rfl) (by decide)
                                        · replace h := ifn c322 h
                                          refine lv_iconst (v := 0) hx hb dL_law_1048 (by decide) ?_
                                          cases h
                                          exact absurd (hret _ rfl) (by decide)
                                      · replace h := ifn c29 h
                                        by_cases c30 : (x13 &&& 31) = 16
                                        · replace h := ifp c30 h
                                          refine lv_tableIn (off := 1031) (tgt := 1070) hx hb dL_law_39 (by rw [c30]; decide) (by rw [c30]; decide) (by rw [c30]; rfl) (by decide) ?_
                                          refine lv_aload_n hx hb dL_law_1070 rfl (lv_at hl 1 rfl) ?_
                                          refine lv_aload_n hx hb dL_law_1071 rfl (lv_at hl 0 rfl) ?_
                                          refine lv_iload hx hb dL_law_1072 (lv_at hl 4 rfl) ?_
                                          refine lv_iconst (v := 1) hx hb dL_law_1074 (by decide) ?_
                                          refine lv_iadd hx hb dL_law_1075 ?_
                                          replace h := bd h
                                          obtain ⟨x328, q327, h⟩ := h
                                          refine r_scr hx hb hX hbl hbA hS q327 dL_law_1076 ?_
                                          refine lv_aload_n hx hb dL_law_1077 rfl (lv_at hl 0 rfl) ?_
                                          refine lv_iload hx hb dL_law_1078 (lv_at hl 4 rfl) ?_
                                          refine lv_iconst (v := 2) hx hb dL_law_1080 (by decide) ?_
                                          refine lv_iadd hx hb dL_law_1081 ?_
                                          replace h := bd h
                                          obtain ⟨x330, q329, h⟩ := h
                                          refine r_scr hx hb hX hbl hbA hS q329 dL_law_1082 ?_
                                          refine lv_aload_n hx hb dL_law_1083 rfl (lv_at hl 3 rfl) ?_
                                          replace h := bd h
                                          obtain ⟨z332, q331, h⟩ := h
                                          refine c_L_block ⟨hx, hb, hml, hown, hts⟩ hl.1 hK hP hD hA hS hE hNC hl0 wd_811 ⟨(Nat.le_of_ble_eq_true rfl), (Nat.le_of_ble_eq_true rfl)⟩ q331 (Nat.le_of_ble_eq_true rfl) dL_law_1084 ⟨(by show (cs + 0) + 2 ≤ 601024; omega), (by show (sl9 + 0) + 12 ≤ 7293034; omega)⟩ (fun H locs hP hD hS => ?_)
                                          refine lv_istore (lv' := [(5, .int z332.1), (0, .ref b), (1, .ref y23_1), (2, .ref y23_2), (3, .ref y23_3), (4, .int y23_4)]) hx hb dL_law_1087 hl (by decide) rfl (fun ls hl => ?_)
                                          refine lv_aload_n hx hb dL_law_1089 rfl (lv_at hl 3 rfl) ?_
                                          refine lv_aload_n hx hb dL_law_1090 rfl (lv_at hl 1 rfl) ?_
                                          refine lv_iload hx hb dL_law_1091 (lv_at hl 5 rfl) ?_
                                          refine lv_iconst (v := 1) hx hb dL_law_1093 (by decide) ?_
                                          refine lv_iadd hx hb dL_law_1094 ?_
                                          replace h := bd h
                                          obtain ⟨x334, q333, h⟩ := h
                                          refine r_scr hx hb hX hbl hbA hS q333 dL_law_1095 ?_
                                          refine lv_aload_n hx hb dL_law_1096 rfl (lv_at hl 1 rfl) ?_
                                          refine lv_iload hx hb dL_law_1097 (lv_at hl 5 rfl) ?_
                                          refine lv_iconst (v := 2) hx hb dL_law_1099 (by decide) ?_
                                          refine lv_iadd hx hb dL_law_1100 ?_
                                          replace h := bd h
                                          obtain ⟨x336, q335, h⟩ := h
                                          refine r_scr hx hb hX hbl hbA hS q335 dL_law_1101 ?_
                                          replace h := bd h
                                          obtain ⟨_, q337, h⟩ := h
                                          replace h := bd h
                                          obtain ⟨z339, q338, h⟩ := h
                                          refine c_X7_block ⟨hx, hb, hml, hown, hts⟩ hl.1 hK hP hD hA hS wd_1146 ⟨(Nat.le_of_ble_eq_true rfl), (Nat.le_of_ble_eq_true rfl)⟩ q338 q337 (Nat.le_of_ble_eq_true rfl) dL_law_1102 ⟨(by show (cs + 2) + 0 ≤ 601024; omega), (by show (sl9 + 12) + 0 ≤ 7293034; omega)⟩ (fun H locs hP hD hS => ?_)
                                          refine lv_istore (lv' := [(6, .int z339.1), (5, .int z332.1), (0, .ref b), (1, .ref y23_1), (2, .ref y23_2), (3, .ref y23_3), (4, .int y23_4)]) hx hb dL_law_1105 hl (by decide) rfl (fun ls hl => ?_)
                                          refine lv_aload_n hx hb dL_law_1107 rfl (lv_at hl 4 rfl) ?_
                                          replace h := bd h
                                          obtain ⟨_, q340, h⟩ := h
                                          replace h := bd h
                                          obtain ⟨x342, q341, h⟩ := h
                                          refine c_X7_thrown ⟨hx, hb, hml, hown, hts⟩ hl.1 hK hP hS wd_927 ⟨(Nat.le_of_ble_eq_true rfl), (Nat.le_of_ble_eq_true rfl)⟩ q341 q340 (Nat.le_of_ble_eq_true rfl) dL_law_1108 ⟨(by show (cs + 2) + 0 ≤ 601024; omega), (by show (sl9 + 12) + 0 ≤ 7293034; omega)⟩ (fun H locs hP hS => ?_)
                                          refine lv_iload hx hb dL_law_1111 (lv_at hl 1 rfl) ?_
                                          refine lv_icmp_eq (tgt := 1118) hx hb dL_law_1113 (by decide) (fun c343 => ?_) (fun c343 => ?_)
                                          · replace h := ifp c343 h
                                            refine lv_iload hx hb dL_law_1118 (lv_at hl 1 rfl) ?_
                                            refine lv_if_ne (tgt := 1135) hx hb dL_law_1120 (by decide) (fun c344 => ?_) (fun c344 => ?_)
                                            · replace h := ifn c344 h
                                              refine lv_goto (tgt := 1781) hx hb dL_law_1135 (by decide) ?_
                                              refine lv_iinc (v := (y23_4 + 5)) (lv' := [(4, .int (y23_4 + 5)), (6, .int z339.1), (5, .int z332.1), (0, .ref b), (1, .ref y23_1), (2, .ref y23_2), (3, .ref y23_3)]) hx hb dL_law_1781 hl (k := 6) rfl rfl (by decide) rfl (fun ls hl => ?_)
                                              refine lv_goto (tgt := 23) hx hb dL_law_1784 (by decide) ?_
                                              exact ih z339.2 (y23_4 + 5) _ h (cs + 2) (sl9 + 12) (by omega) (by omega) _ _ _ hP hD hS (lv_sub hl [3, 4, 5, 6, 0] rfl) hret hexit
                                            · replace h := ifp c344 h
                                              refine lv_aload_n hx hb dL_law_1123 rfl (lv_at hl 5 rfl) ?_
                                              refine lv_iconst (v := 0) hx hb dL_law_1124 (by decide) ?_
                                              replace h := bd h
                                              obtain ⟨x345, q346, h⟩ := h
                                              refine r_aJ hx hb hK hP q346 dL_law_1125 ?_
                                              refine lv_iload hx hb dL_law_1126 (lv_at hl 0 rfl) ?_
                                              refine lv_i2l (v := (Int32.toInt64 z339.1)) hx hb dL_law_1128 rfl ?_
                                              refine W.lcmp hx hb dL_law_1129 ?_
                                              refine lv_if_eq (tgt := 1135) hx hb dL_law_1130 (by decide) (fun c347 => ?_) (fun c347 => ?_)
                                              · replace h := ifp c347 h
                                                refine lv_goto (tgt := 1781) hx hb dL_law_1135 (by decide) ?_
                                                refine lv_iinc (v := (y23_4 + 5)) (lv' := [(4, .int (y23_4 + 5)), (6, .int z339.1), (5, .int z332.1), (0, .ref b), (1, .ref y23_1), (2, .ref y23_2), (3, .ref y23_3)]) hx hb dL_law_1781 hl (k := 6) rfl rfl (by decide) rfl (fun ls hl => ?_)
                                                refine lv_goto (tgt := 23) hx hb dL_law_1784 (by decide) ?_
                                                exact ih z339.2 (y23_4 + 5) _ h (cs + 2) (sl9 + 12) (by omega) (by omega) _ _ _ hP hD hS (lv_sub hl [3, 4, 5, 6, 0] rfl) hret hexit
                                              · replace h := ifn c347 h
                                                refine lv_iconst (v := 0) hx hb dL_law_1133 (by decide) ?_
                                                cases h
                                                exact absurd (hret _ rfl) (by decide)
                                          · replace h := ifn c343 h
                                            refine lv_iconst (v := 0) hx hb dL_law_1116 (by decide) ?_
                                            cases h
                                            exact absurd (hret _ rfl) (by decide)
                                        · replace h := ifn c30 h
                                          by_cases c31 : (x13 &&& 31) = 17
                                          · replace h := ifp c31 h
                                            refine lv_tableIn (off := 1099) (tgt := 1138) hx hb dL_law_39 (by rw [c31]; decide) (by rw [c31]; decide) (by rw [c31]; rfl) (by decide) ?_
                                            refine lv_aload_n hx hb dL_law_1138 rfl (lv_at hl 1 rfl) ?_
                                            refine lv_aload_n hx hb dL_law_1139 rfl (lv_at hl 0 rfl) ?_
                                            refine lv_iload hx hb dL_law_1140 (lv_at hl 4 rfl) ?_
                                            refine lv_iconst (v := 1) hx hb dL_law_1142 (by decide) ?_
                                            refine lv_iadd hx hb dL_law_1143 ?_
                                            replace h := bd h
                                            obtain ⟨x349, q348, h⟩ := h
                                            refine r_scr hx hb hX hbl hbA hS q348 dL_law_1144 ?_
                                            refine lv_aload_n hx hb dL_law_1145 rfl (lv_at hl 0 rfl) ?_
                                            refine lv_iload hx hb dL_law_1146 (lv_at hl 4 rfl) ?_
                                            refine lv_iconst (v := 2) hx hb dL_law_1148 (by decide) ?_
                                            refine lv_iadd hx hb dL_law_1149 ?_
                                            replace h := bd h
                                            obtain ⟨x351, q350, h⟩ := h
                                            refine r_scr hx hb hX hbl hbA hS q350 dL_law_1150 ?_
                                            refine lv_aload_n hx hb dL_law_1151 rfl (lv_at hl 3 rfl) ?_
                                            replace h := bd h
                                            obtain ⟨z353, q352, h⟩ := h
                                            refine c_L_value ⟨hx, hb, hml, hown, hts⟩ hl.1 hK hP hD hA hS hE hNC hl0 wd_818 ⟨(Nat.le_of_ble_eq_true rfl), (Nat.le_of_ble_eq_true rfl)⟩ q352 (Nat.le_of_ble_eq_true rfl) dL_law_1152 ⟨(by show (cs + 0) + 2 ≤ 601024; omega), (by show (sl9 + 0) + 12 ≤ 7293034; omega)⟩ (fun H locs hP hD hS => ?_)
                                            refine lv_istore (lv' := [(5, .int z353.1), (0, .ref b), (1, .ref y23_1), (2, .ref y23_2), (3, .ref y23_3), (4, .int y23_4)]) hx hb dL_law_1155 hl (by decide) rfl (fun ls hl => ?_)
                                            refine lv_aload_n hx hb dL_law_1157 rfl (lv_at hl 3 rfl) ?_
                                            refine lv_aload_n hx hb dL_law_1158 rfl (lv_at hl 1 rfl) ?_
                                            refine lv_iload hx hb dL_law_1159 (lv_at hl 5 rfl) ?_
                                            refine lv_iconst (v := 1) hx hb dL_law_1161 (by decide) ?_
                                            refine lv_iadd hx hb dL_law_1162 ?_
                                            replace h := bd h
                                            obtain ⟨x355, q354, h⟩ := h
                                            refine r_scr hx hb hX hbl hbA hS q354 dL_law_1163 ?_
                                            refine lv_aload_n hx hb dL_law_1164 rfl (lv_at hl 1 rfl) ?_
                                            refine lv_iload hx hb dL_law_1165 (lv_at hl 5 rfl) ?_
                                            refine lv_iconst (v := 2) hx hb dL_law_1167 (by decide) ?_
                                            refine lv_iadd hx hb dL_law_1168 ?_
                                            replace h := bd h
                                            obtain ⟨x357, q356, h⟩ := h
                                            refine r_scr hx hb hX hbl hbA hS q356 dL_law_1169 ?_
                                            replace h := bd h
                                            obtain ⟨_, q358, h⟩ := h
                                            replace h := bd h
                                            obtain ⟨z360, q359, h⟩ := h
                                            refine c_X7_value ⟨hx, hb, hml, hown, hts⟩ hl.1 hK hP hD hA hS wd_1162 ⟨(Nat.le_of_ble_eq_true rfl), (Nat.le_of_ble_eq_true rfl)⟩ q359 q358 (Nat.le_of_ble_eq_true rfl) dL_law_1170 ⟨(by show (cs + 2) + 0 ≤ 601024; omega), (by show (sl9 + 12) + 0 ≤ 7293034; omega)⟩ (fun H locs hP hD hS => ?_)
                                            refine lv_istore (lv' := [(6, .int z360.1), (5, .int z353.1), (0, .ref b), (1, .ref y23_1), (2, .ref y23_2), (3, .ref y23_3), (4, .int y23_4)]) hx hb dL_law_1173 hl (by decide) rfl (fun ls hl => ?_)
                                            refine lv_aload_n hx hb dL_law_1175 rfl (lv_at hl 4 rfl) ?_
                                            replace h := bd h
                                            obtain ⟨_, q361, h⟩ := h
                                            replace h := bd h
                                            obtain ⟨x363, q362, h⟩ := h
                                            refine c_X7_thrown ⟨hx, hb, hml, hown, hts⟩ hl.1 hK hP hS wd_927 ⟨(Nat.le_of_ble_eq_true rfl), (Nat.le_of_ble_eq_true rfl)⟩ q362 q361 (Nat.le_of_ble_eq_true rfl) dL_law_1176 ⟨(by show (cs + 2) + 0 ≤ 601024; omega), (by show (sl9 + 12) + 0 ≤ 7293034; omega)⟩ (fun H locs hP hS => ?_)
                                            refine lv_iload hx hb dL_law_1179 (lv_at hl 1 rfl) ?_
                                            refine lv_icmp_eq (tgt := 1186) hx hb dL_law_1181 (by decide) (fun c364 => ?_) (fun c364 => ?_)
                                            · replace h := ifp c364 h
                                              refine lv_iload hx hb dL_law_1186 (lv_at hl 1 rfl) ?_
                                              refine lv_if_ne (tgt := 1203) hx hb dL_law_1188 (by decide) (fun c365 => ?_) (fun c365 => ?_)
                                              · replace h := ifn c365 h
                                                refine lv_goto (tgt := 1781) hx hb dL_law_1203 (by decide) ?_
                                                refine lv_iinc (v := (y23_4 + 5)) (lv' := [(4, .int (y23_4 + 5)), (6, .int z360.1), (5, .int z353.1), (0, .ref b), (1, .ref y23_1), (2, .ref y23_2), (3, .ref y23_3)]) hx hb dL_law_1781 hl (k := 6) rfl rfl (by decide) rfl (fun ls hl => ?_)
                                                refine lv_goto (tgt := 23) hx hb dL_law_1784 (by decide) ?_
                                                exact ih z360.2 (y23_4 + 5) _ h (cs + 2) (sl9 + 12) (by omega) (by omega) _ _ _ hP hD hS (lv_sub hl [3, 4, 5, 6, 0] rfl) hret hexit
                                              · replace h := ifp c365 h
                                                refine lv_aload_n hx hb dL_law_1191 rfl (lv_at hl 5 rfl) ?_
                                                refine lv_iconst (v := 0) hx hb dL_law_1192 (by decide) ?_
                                                replace h := bd h
                                                obtain ⟨x366, q367, h⟩ := h
                                                refine r_aJ hx hb hK hP q367 dL_law_1193 ?_
                                                refine lv_iload hx hb dL_law_1194 (lv_at hl 0 rfl) ?_
                                                refine lv_i2l (v := (Int32.toInt64 z360.1)) hx hb dL_law_1196 rfl ?_
                                                refine W.lcmp hx hb dL_law_1197 ?_
                                                refine lv_if_eq (tgt := 1203) hx hb dL_law_1198 (by decide) (fun c368 => ?_) (fun c368 => ?_)
                                                · replace h := ifp c368 h
                                                  refine lv_goto (tgt := 1781) hx hb dL_law_1203 (by decide) ?_
                                                  refine lv_iinc (v := (y23_4 + 5)) (lv' := [(4, .int (y23_4 + 5)), (6, .int z360.1), (5, .int z353.1), (0, .ref b), (1, .ref y23_1), (2, .ref y23_2), (3, .ref y23_3)]) hx hb dL_law_1781 hl (k := 6) rfl rfl (by decide) rfl (fun ls hl => ?_)
                                                  refine lv_goto (tgt := 23) hx hb dL_law_1784 (by decide) ?_
                                                  exact ih z360.2 (y23_4 + 5) _ h (cs + 2) (sl9 + 12) (by omega) (by omega) _ _ _ hP hD hS (lv_sub hl [3, 4, 5, 6, 0] rfl) hret hexit
                                                · replace h := ifn c368 h
                                                  refine lv_iconst (v := 0) hx hb dL_law_1201 (by decide) ?_
                                                  cases h
                                                  exact absurd (hret _ rfl) (by decide)
                                            · replace h := ifn c364 h
                                              refine lv_iconst (v := 0) hx hb dL_law_1184 (by decide) ?_
                                              cases h
                                              exact absurd (hret _ rfl) (by decide)
                                          · replace h := ifn c31 h
                                            by_cases c32 : (x13 &&& 31) = 18
                                            · replace h := ifp c32 h
                                              refine lv_tableIn (off := 1167) (tgt := 1206) hx hb dL_law_39 (by rw [c32]; decide) (by rw [c32]; decide) (by rw [c32]; rfl) (by decide) ?_
                                              refine lv_aload_n hx hb dL_law_1206 rfl (lv_at hl 1 rfl) ?_
                                              refine lv_aload_n hx hb dL_law_1207 rfl (lv_at hl 0 rfl) ?_
                                              refine lv_iload hx hb dL_law_1208 (lv_at hl 4 rfl) ?_
                                              refine lv_iconst (v := 1) hx hb dL_law_1210 (by decide) ?_
                                              refine lv_iadd hx hb dL_law_1211 ?_
                                              replace h := bd h
                                              obtain ⟨x370, q369, h⟩ := h
                                              refine r_scr hx hb hX hbl hbA hS q369 dL_law_1212 ?_
                                              refine lv_aload_n hx hb dL_law_1213 rfl (lv_at hl 3 rfl) ?_
                                              replace h := bd h
                                              obtain ⟨z372, q371, h⟩ := h
                                              refine c_L_count ⟨hx, hb, hml, hown, hts⟩ hl.1 hK hP hD hA hS hE hNC hl0 wd_825 ⟨(Nat.le_of_ble_eq_true rfl), (Nat.le_of_ble_eq_true rfl)⟩ q371 (Nat.le_of_ble_eq_true rfl) dL_law_1214 ⟨(by show (cs + 0) + 1 ≤ 601024; omega), (by show (sl9 + 0) + 6 ≤ 7293034; omega)⟩ (fun H locs hP hD hS => ?_)
                                              refine lv_istore (lv' := [(5, .int z372.1), (0, .ref b), (1, .ref y23_1), (2, .ref y23_2), (3, .ref y23_3), (4, .int y23_4)]) hx hb dL_law_1217 hl (by decide) rfl (fun ls hl => ?_)
                                              refine lv_aload_n hx hb dL_law_1219 rfl (lv_at hl 3 rfl) ?_
                                              refine lv_aload_n hx hb dL_law_1220 rfl (lv_at hl 1 rfl) ?_
                                              refine lv_iload hx hb dL_law_1221 (lv_at hl 5 rfl) ?_
                                              refine lv_iconst (v := 1) hx hb dL_law_1223 (by decide) ?_
                                              refine lv_iadd hx hb dL_law_1224 ?_
                                              replace h := bd h
                                              obtain ⟨x374, q373, h⟩ := h
                                              refine r_scr hx hb hX hbl hbA hS q373 dL_law_1225 ?_
                                              replace h := bd h
                                              obtain ⟨_, q375, h⟩ := h
                                              replace h := bd h
                                              obtain ⟨z377, q376, h⟩ := h
                                              refine c_X7_count ⟨hx, hb, hml, hown, hts⟩ hl.1 hK hP hD hA hS wd_1166 ⟨(Nat.le_of_ble_eq_true rfl), (Nat.le_of_ble_eq_true rfl)⟩ q376 q375 (Nat.le_of_ble_eq_true rfl) dL_law_1226 ⟨(by show (cs + 1) + 0 ≤ 601024; omega), (by show (sl9 + 6) + 0 ≤ 7293034; omega)⟩ (fun H locs hP hD hS => ?_)
                                              refine lv_istore (lv' := [(6, .int z377.1), (5, .int z372.1), (0, .ref b), (1, .ref y23_1), (2, .ref y23_2), (3, .ref y23_3), (4, .int y23_4)]) hx hb dL_law_1229 hl (by decide) rfl (fun ls hl => ?_)
                                              refine lv_aload_n hx hb dL_law_1231 rfl (lv_at hl 4 rfl) ?_
                                              replace h := bd h
                                              obtain ⟨_, q378, h⟩ := h
                                              replace h := bd h
                                              obtain ⟨x380, q379, h⟩ := h
                                              refine c_X7_thrown ⟨hx, hb, hml, hown, hts⟩ hl.1 hK hP hS wd_927 ⟨(Nat.le_of_ble_eq_true rfl), (Nat.le_of_ble_eq_true rfl)⟩ q379 q378 (Nat.le_of_ble_eq_true rfl) dL_law_1232 ⟨(by show (cs + 1) + 0 ≤ 601024; omega), (by show (sl9 + 6) + 0 ≤ 7293034; omega)⟩ (fun H locs hP hS => ?_)
                                              refine lv_iload hx hb dL_law_1235 (lv_at hl 1 rfl) ?_
                                              refine lv_icmp_eq (tgt := 1242) hx hb dL_law_1237 (by decide) (fun c381 => ?_) (fun c381 => ?_)
                                              · replace h := ifp c381 h
                                                refine lv_iload hx hb dL_law_1242 (lv_at hl 1 rfl) ?_
                                                refine lv_if_ne (tgt := 1259) hx hb dL_law_1244 (by decide) (fun c382 => ?_) (fun c382 => ?_)
                                                · replace h := ifn c382 h
                                                  refine lv_goto (tgt := 1781) hx hb dL_law_1259 (by decide) ?_
                                                  refine lv_iinc (v := (y23_4 + 5)) (lv' := [(4, .int (y23_4 + 5)), (6, .int z377.1), (5, .int z372.1), (0, .ref b), (1, .ref y23_1), (2, .ref y23_2), (3, .ref y23_3)]) hx hb dL_law_1781 hl (k := 6) rfl rfl (by decide) rfl (fun ls hl => ?_)
                                                  refine lv_goto (tgt := 23) hx hb dL_law_1784 (by decide) ?_
                                                  exact ih z377.2 (y23_4 + 5) _ h (cs + 1) (sl9 + 6) (by omega) (by omega) _ _ _ hP hD hS (lv_sub hl [3, 4, 5, 6, 0] rfl) hret hexit
                                                · replace h := ifp c382 h
                                                  refine lv_aload_n hx hb dL_law_1247 rfl (lv_at hl 5 rfl) ?_
                                                  refine lv_iconst (v := 0) hx hb dL_law_1248 (by decide) ?_
                                                  replace h := bd h
                                                  obtain ⟨x383, q384, h⟩ := h
                                                  refine r_aJ hx hb hK hP q384 dL_law_1249 ?_
                                                  refine lv_iload hx hb dL_law_1250 (lv_at hl 0 rfl) ?_
                                                  refine lv_i2l (v := (Int32.toInt64 z377.1)) hx hb dL_law_1252 rfl ?_
                                                  refine W.lcmp hx hb dL_law_1253 ?_
                                                  refine lv_if_eq (tgt := 1259) hx hb dL_law_1254 (by decide) (fun c385 => ?_) (fun c385 => ?_)
                                                  · replace h := ifp c385 h
                                                    refine lv_goto (tgt := 1781) hx hb dL_law_1259 (by decide) ?_
                                                    refine lv_iinc (v := (y23_4 + 5)) (lv' := [(4, .int (y23_4 + 5)), (6, .int z377.1), (5, .int z372.1), (0, .ref b), (1, .ref y23_1), (2, .ref y23_2), (3, .ref y23_3)]) hx hb dL_law_1781 hl (k := 6) rfl rfl (by decide) rfl (fun ls hl => ?_)
                                                    refine lv_goto (tgt := 23) hx hb dL_law_1784 (by decide) ?_
                                                    exact ih z377.2 (y23_4 + 5) _ h (cs + 1) (sl9 + 6) (by omega) (by omega) _ _ _ hP hD hS (lv_sub hl [3, 4, 5, 6, 0] rfl) hret hexit
                                                  · replace h := ifn c385 h
                                                    refine lv_iconst (v := 0) hx hb dL_law_1257 (by decide) ?_
                                                    cases h
                                                    exact absurd (hret _ rfl) (by decide)
                                              · replace h := ifn c381 h
                                                refine lv_iconst (v := 0) hx hb dL_law_1240 (by decide) ?_
                                                cases h
                                                exact absurd (hret _ rfl) (by decide)
                                            · replace h := ifn c32 h
                                              by_cases c33 : (x13 &&& 31) = 19
                                              · replace h := ifp c33 h
                                                refine lv_tableIn (off := 1223) (tgt := 1262) hx hb dL_law_39 (by rw [c33]; decide) (by rw [c33]; decide) (by rw [c33]; rfl) (by decide) ?_
                                                refine lv_aload_n hx hb dL_law_1262 rfl (lv_at hl 1 rfl) ?_
                                                refine lv_aload_n hx hb dL_law_1263 rfl (lv_at hl 0 rfl) ?_
                                                refine lv_iload hx hb dL_law_1264 (lv_at hl 4 rfl) ?_
                                                refine lv_iconst (v := 1) hx hb dL_law_1266 (by decide) ?_
                                                refine lv_iadd hx hb dL_law_1267 ?_
                                                replace h := bd h
                                                obtain ⟨x387, q386, h⟩ := h
                                                refine r_scr hx hb hX hbl hbA hS q386 dL_law_1268 ?_
                                                refine lv_aload_n hx hb dL_law_1269 rfl (lv_at hl 3 rfl) ?_
                                                replace h := bd h
                                                obtain ⟨z389, q388, h⟩ := h
                                                refine c_L_setting ⟨hx, hb, hml, hown, hts⟩ hl.1 hK hP hD hA hS hE hNC hl0 wd_832 ⟨(Nat.le_of_ble_eq_true rfl), (Nat.le_of_ble_eq_true rfl)⟩ q388 (Nat.le_of_ble_eq_true rfl) dL_law_1270 ⟨(by show (cs + 0) + 1 ≤ 601024; omega), (by show (sl9 + 0) + 6 ≤ 7293034; omega)⟩ (fun H locs hP hD hS => ?_)
                                                refine lv_istore (lv' := [(5, .int z389.1), (0, .ref b), (1, .ref y23_1), (2, .ref y23_2), (3, .ref y23_3), (4, .int y23_4)]) hx hb dL_law_1273 hl (by decide) rfl (fun ls hl => ?_)
                                                refine lv_aload_n hx hb dL_law_1275 rfl (lv_at hl 3 rfl) ?_
                                                refine lv_aload_n hx hb dL_law_1276 rfl (lv_at hl 1 rfl) ?_
                                                refine lv_iload hx hb dL_law_1277 (lv_at hl 5 rfl) ?_
                                                refine lv_iconst (v := 1) hx hb dL_law_1279 (by decide) ?_
                                                refine lv_iadd hx hb dL_law_1280 ?_
                                                replace h := bd h
                                                obtain ⟨x391, q390, h⟩ := h
                                                refine r_scr hx hb hX hbl hbA hS q390 dL_law_1281 ?_
                                                replace h := bd h
                                                obtain ⟨_, q392, h⟩ := h
                                                replace h := bd h
                                                obtain ⟨z394, q393, h⟩ := h
                                                refine c_X7_setting ⟨hx, hb, hml, hown, hts⟩ hl.1 hK hP hD hA hS wd_1182 ⟨(Nat.le_of_ble_eq_true rfl), (Nat.le_of_ble_eq_true rfl)⟩ q393 q392 (Nat.le_of_ble_eq_true rfl) dL_law_1282 ⟨(by show (cs + 1) + 0 ≤ 601024; omega), (by show (sl9 + 6) + 0 ≤ 7293034; omega)⟩ (fun H locs hP hD hS => ?_)
                                                refine lv_istore (lv' := [(6, .int z394.1), (5, .int z389.1), (0, .ref b), (1, .ref y23_1), (2, .ref y23_2), (3, .ref y23_3), (4, .int y23_4)]) hx hb dL_law_1285 hl (by decide) rfl (fun ls hl => ?_)
                                                refine lv_aload_n hx hb dL_law_1287 rfl (lv_at hl 4 rfl) ?_
                                                replace h := bd h
                                                obtain ⟨_, q395, h⟩ := h
                                                replace h := bd h
                                                obtain ⟨x397, q396, h⟩ := h
                                                refine c_X7_thrown ⟨hx, hb, hml, hown, hts⟩ hl.1 hK hP hS wd_927 ⟨(Nat.le_of_ble_eq_true rfl), (Nat.le_of_ble_eq_true rfl)⟩ q396 q395 (Nat.le_of_ble_eq_true rfl) dL_law_1288 ⟨(by show (cs + 1) + 0 ≤ 601024; omega), (by show (sl9 + 6) + 0 ≤ 7293034; omega)⟩ (fun H locs hP hS => ?_)
                                                refine lv_iload hx hb dL_law_1291 (lv_at hl 1 rfl) ?_
                                                refine lv_icmp_eq (tgt := 1298) hx hb dL_law_1293 (by decide) (fun c398 => ?_) (fun c398 => ?_)
                                                · replace h := ifp c398 h
                                                  refine lv_iload hx hb dL_law_1298 (lv_at hl 1 rfl) ?_
                                                  refine lv_if_ne (tgt := 1315) hx hb dL_law_1300 (by decide) (fun c399 => ?_) (fun c399 => ?_)
                                                  · replace h := ifn c399 h
                                                    refine lv_goto (tgt := 1781) hx hb dL_law_1315 (by decide) ?_
                                                    refine lv_iinc (v := (y23_4 + 5)) (lv' := [(4, .int (y23_4 + 5)), (6, .int z394.1), (5, .int z389.1), (0, .ref b), (1, .ref y23_1), (2, .ref y23_2), (3, .ref y23_3)]) hx hb dL_law_1781 hl (k := 6) rfl rfl (by decide) rfl (fun ls hl => ?_)
                                                    refine lv_goto (tgt := 23) hx hb dL_law_1784 (by decide) ?_
                                                    exact ih z394.2 (y23_4 + 5) _ h (cs + 1) (sl9 + 6) (by omega) (by omega) _ _ _ hP hD hS (lv_sub hl [3, 4, 5, 6, 0] rfl) hret hexit
                                                  · replace h := ifp c399 h
                                                    refine lv_aload_n hx hb dL_law_1303 rfl (lv_at hl 5 rfl) ?_
                                                    refine lv_iconst (v := 0) hx hb dL_law_1304 (by decide) ?_
                                                    replace h := bd h
                                                    obtain ⟨x400, q401, h⟩ := h
                                                    refine r_aJ hx hb hK hP q401 dL_law_1305 ?_
                                                    refine lv_iload hx hb dL_law_1306 (lv_at hl 0 rfl) ?_
                                                    refine lv_i2l (v := (Int32.toInt64 z394.1)) hx hb dL_law_1308 rfl ?_
                                                    refine W.lcmp hx hb dL_law_1309 ?_
                                                    refine lv_if_eq (tgt := 1315) hx hb dL_law_1310 (by decide) (fun c402 => ?_) (fun c402 => ?_)
                                                    · replace h := ifp c402 h
                                                      refine lv_goto (tgt := 1781) hx hb dL_law_1315 (by decide) ?_
                                                      refine lv_iinc (v := (y23_4 + 5)) (lv' := [(4, .int (y23_4 + 5)), (6, .int z394.1), (5, .int z389.1), (0, .ref b), (1, .ref y23_1), (2, .ref y23_2), (3, .ref y23_3)]) hx hb dL_law_1781 hl (k := 6) rfl rfl (by decide) rfl (fun ls hl => ?_)
                                                      refine lv_goto (tgt := 23) hx hb dL_law_1784 (by decide) ?_
                                                      exact ih z394.2 (y23_4 + 5) _ h (cs + 1) (sl9 + 6) (by omega) (by omega) _ _ _ hP hD hS (lv_sub hl [3, 4, 5, 6, 0] rfl) hret hexit
                                                    · replace h := ifn c402 h
                                                      refine lv_iconst (v := 0) hx hb dL_law_1313 (by decide) ?_
                                                      cases h
                                                      exact absurd (hret _ rfl) (by decide)
                                                · replace h := ifn c398 h
                                                  refine lv_iconst (v := 0) hx hb dL_law_1296 (by decide) ?_
                                                  cases h
                                                  exact absurd (hret _ rfl) (by decide)
                                              · replace h := ifn c33 h
                                                by_cases c34 : (x13 &&& 31) = 20
                                                · replace h := ifp c34 h
                                                  refine lv_tableIn (off := 1279) (tgt := 1318) hx hb dL_law_39 (by rw [c34]; decide) (by rw [c34]; decide) (by rw [c34]; rfl) (by decide) ?_
                                                  refine lv_aload_n hx hb dL_law_1318 rfl (lv_at hl 1 rfl) ?_
                                                  refine lv_aload_n hx hb dL_law_1319 rfl (lv_at hl 0 rfl) ?_
                                                  refine lv_iload hx hb dL_law_1320 (lv_at hl 4 rfl) ?_
                                                  refine lv_iconst (v := 1) hx hb dL_law_1322 (by decide) ?_
                                                  refine lv_iadd hx hb dL_law_1323 ?_
                                                  replace h := bd h
                                                  obtain ⟨x404, q403, h⟩ := h
                                                  refine r_scr hx hb hX hbl hbA hS q403 dL_law_1324 ?_
                                                  refine lv_aload_n hx hb dL_law_1325 rfl (lv_at hl 0 rfl) ?_
                                                  refine lv_iload hx hb dL_law_1326 (lv_at hl 4 rfl) ?_
                                                  refine lv_iconst (v := 2) hx hb dL_law_1328 (by decide) ?_
                                                  refine lv_iadd hx hb dL_law_1329 ?_
                                                  replace h := bd h
                                                  obtain ⟨x406, q405, h⟩ := h
                                                  refine r_scr hx hb hX hbl hbA hS q405 dL_law_1330 ?_
                                                  refine lv_aload_n hx hb dL_law_1331 rfl (lv_at hl 3 rfl) ?_
                                                  replace h := bd h
                                                  obtain ⟨z408, q407, h⟩ := h
                                                  refine c_L_cost ⟨hx, hb, hml, hown, hts⟩ hl.1 hK hP hD hA hS hE hNC hl0 wd_839 ⟨(Nat.le_of_ble_eq_true rfl), (Nat.le_of_ble_eq_true rfl)⟩ q407 (Nat.le_of_ble_eq_true rfl) dL_law_1332 ⟨(by show (cs + 0) + 2 ≤ 601024; omega), (by show (sl9 + 0) + 12 ≤ 7293034; omega)⟩ (fun H locs hP hD hS => ?_)
                                                  refine lv_istore (lv' := [(5, .int z408.1), (0, .ref b), (1, .ref y23_1), (2, .ref y23_2), (3, .ref y23_3), (4, .int y23_4)]) hx hb dL_law_1335 hl (by decide) rfl (fun ls hl => ?_)
                                                  refine lv_aload_n hx hb dL_law_1337 rfl (lv_at hl 3 rfl) ?_
                                                  refine lv_aload_n hx hb dL_law_1338 rfl (lv_at hl 1 rfl) ?_
                                                  refine lv_iload hx hb dL_law_1339 (lv_at hl 5 rfl) ?_
                                                  refine lv_iconst (v := 1) hx hb dL_law_1341 (by decide) ?_
                                                  refine lv_iadd hx hb dL_law_1342 ?_
                                                  replace h := bd h
                                                  obtain ⟨x410, q409, h⟩ := h
                                                  refine r_scr hx hb hX hbl hbA hS q409 dL_law_1343 ?_
                                                  refine lv_aload_n hx hb dL_law_1344 rfl (lv_at hl 1 rfl) ?_
                                                  refine lv_iload hx hb dL_law_1345 (lv_at hl 5 rfl) ?_
                                                  refine lv_iconst (v := 2) hx hb dL_law_1347 (by decide) ?_
                                                  refine lv_iadd hx hb dL_law_1348 ?_
                                                  replace h := bd h
                                                  obtain ⟨x412, q411, h⟩ := h
                                                  refine r_scr hx hb hX hbl hbA hS q411 dL_law_1349 ?_
                                                  replace h := bd h
                                                  obtain ⟨_, q413, h⟩ := h
                                                  replace h := bd h
                                                  obtain ⟨z415, q414, h⟩ := h
                                                  refine c_X7_cost ⟨hx, hb, hml, hown, hts⟩ hl.1 hK hP hD hA hS wd_1186 ⟨(Nat.le_of_ble_eq_true rfl), (Nat.le_of_ble_eq_true rfl)⟩ q414 q413 (Nat.le_of_ble_eq_true rfl) dL_law_1350 ⟨(by show (cs + 2) + 0 ≤ 601024; omega), (by show (sl9 + 12) + 0 ≤ 7293034; omega)⟩ (fun H locs hP hD hS => ?_)
                                                  refine lv_istore (lv' := [(6, .int z415.1), (5, .int z408.1), (0, .ref b), (1, .ref y23_1), (2, .ref y23_2), (3, .ref y23_3), (4, .int y23_4)]) hx hb dL_law_1353 hl (by decide) rfl (fun ls hl => ?_)
                                                  refine lv_aload_n hx hb dL_law_1355 rfl (lv_at hl 4 rfl) ?_
                                                  replace h := bd h
                                                  obtain ⟨_, q416, h⟩ := h
                                                  replace h := bd h
                                                  obtain ⟨x418, q417, h⟩ := h
                                                  refine c_X7_thrown ⟨hx, hb, hml, hown, hts⟩ hl.1 hK hP hS wd_927 ⟨(Nat.le_of_ble_eq_true rfl), (Nat.le_of_ble_eq_true rfl)⟩ q417 q416 (Nat.le_of_ble_eq_true rfl) dL_law_1356 ⟨(by show (cs + 2) + 0 ≤ 601024; omega), (by show (sl9 + 12) + 0 ≤ 7293034; omega)⟩ (fun H locs hP hS => ?_)
                                                  refine lv_iload hx hb dL_law_1359 (lv_at hl 1 rfl) ?_
                                                  refine lv_icmp_eq (tgt := 1366) hx hb dL_law_1361 (by decide) (fun c419 => ?_) (fun c419 => ?_)
                                                  · replace h := ifp c419 h
                                                    refine lv_iload hx hb dL_law_1366 (lv_at hl 1 rfl) ?_
                                                    refine lv_if_ne (tgt := 1383) hx hb dL_law_1368 (by decide) (fun c420 => ?_) (fun c420 => ?_)
                                                    · replace h := ifn c420 h
                                                      refine lv_goto (tgt := 1781) hx hb dL_law_1383 (by decide) ?_
                                                      refine lv_iinc (v := (y23_4 + 5)) (lv' := [(4, .int (y23_4 + 5)), (6, .int z415.1), (5, .int z408.1), (0, .ref b), (1, .ref y23_1), (2, .ref y23_2), (3, .ref y23_3)]) hx hb dL_law_1781 hl (k := 6) rfl rfl (by decide) rfl (fun ls hl => ?_)
                                                      refine lv_goto (tgt := 23) hx hb dL_law_1784 (by decide) ?_
                                                      exact ih z415.2 (y23_4 + 5) _ h (cs + 2) (sl9 + 12) (by omega) (by omega) _ _ _ hP hD hS (lv_sub hl [3, 4, 5, 6, 0] rfl) hret hexit
                                                    · replace h := ifp c420 h
                                                      refine lv_aload_n hx hb dL_law_1371 rfl (lv_at hl 5 rfl) ?_
                                                      refine lv_iconst (v := 0) hx hb dL_law_1372 (by decide) ?_
                                                      replace h := bd h
                                                      obtain ⟨x421, q422, h⟩ := h
                                                      refine r_aJ hx hb hK hP q422 dL_law_1373 ?_
                                                      refine lv_iload hx hb dL_law_1374 (lv_at hl 0 rfl) ?_
                                                      refine lv_i2l (v := (Int32.toInt64 z415.1)) hx hb dL_law_1376 rfl ?_
                                                      refine W.lcmp hx hb dL_law_1377 ?_
                                                      refine lv_if_eq (tgt := 1383) hx hb dL_law_1378 (by decide) (fun c423 => ?_) (fun c423 => ?_)
                                                      · replace h := ifp c423 h
                                                        refine lv_goto (tgt := 1781) hx hb dL_law_1383 (by decide) ?_
                                                        refine lv_iinc (v := (y23_4 + 5)) (lv' := [(4, .int (y23_4 + 5)), (6, .int z415.1), (5, .int z408.1), (0, .ref b), (1, .ref y23_1), (2, .ref y23_2), (3, .ref y23_3)]) hx hb dL_law_1781 hl (k := 6) rfl rfl (by decide) rfl (fun ls hl => ?_)
                                                        refine lv_goto (tgt := 23) hx hb dL_law_1784 (by decide) ?_
                                                        exact ih z415.2 (y23_4 + 5) _ h (cs + 2) (sl9 + 12) (by omega) (by omega) _ _ _ hP hD hS (lv_sub hl [3, 4, 5, 6, 0] rfl) hret hexit
                                                      · replace h := ifn c423 h
                                                        refine lv_iconst (v := 0) hx hb dL_law_1381 (by decide) ?_
                                                        cases h
                                                        exact absurd (hret _ rfl) (by decide)
                                                  · replace h := ifn c419 h
                                                    refine lv_iconst (v := 0) hx hb dL_law_1364 (by decide) ?_
                                                    cases h
                                                    exact absurd (hret _ rfl) (by decide)
                                                · replace h := ifn c34 h
                                                  by_cases c35 : (x13 &&& 31) = 21
                                                  · replace h := ifp c35 h
                                                    refine lv_tableIn (off := 1347) (tgt := 1386) hx hb dL_law_39 (by rw [c35]; decide) (by rw [c35]; decide) (by rw [c35]; rfl) (by decide) ?_
                                                    refine lv_aload_n hx hb dL_law_1386 rfl (lv_at hl 1 rfl) ?_
                                                    refine lv_aload_n hx hb dL_law_1387 rfl (lv_at hl 0 rfl) ?_
                                                    refine lv_iload hx hb dL_law_1388 (lv_at hl 4 rfl) ?_
                                                    refine lv_iconst (v := 1) hx hb dL_law_1390 (by decide) ?_
                                                    refine lv_iadd hx hb dL_law_1391 ?_
                                                    replace h := bd h
                                                    obtain ⟨x425, q424, h⟩ := h
                                                    refine r_scr hx hb hX hbl hbA hS q424 dL_law_1392 ?_
                                                    refine lv_aload_n hx hb dL_law_1393 rfl (lv_at hl 0 rfl) ?_
                                                    refine lv_iload hx hb dL_law_1394 (lv_at hl 4 rfl) ?_
                                                    refine lv_iconst (v := 2) hx hb dL_law_1396 (by decide) ?_
                                                    refine lv_iadd hx hb dL_law_1397 ?_
                                                    replace h := bd h
                                                    obtain ⟨x427, q426, h⟩ := h
                                                    refine r_scr hx hb hX hbl hbA hS q426 dL_law_1398 ?_
                                                    refine lv_aload_n hx hb dL_law_1399 rfl (lv_at hl 0 rfl) ?_
                                                    refine lv_iload hx hb dL_law_1400 (lv_at hl 4 rfl) ?_
                                                    refine lv_iconst (v := 3) hx hb dL_law_1402 (by decide) ?_
                                                    refine lv_iadd hx hb dL_law_1403 ?_
                                                    replace h := bd h
                                                    obtain ⟨x429, q428, h⟩ := h
                                                    refine r_scr hx hb hX hbl hbA hS q428 dL_law_1404 ?_
                                                    refine lv_aload_n hx hb dL_law_1405 rfl (lv_at hl 0 rfl) ?_
                                                    refine lv_iload hx hb dL_law_1406 (lv_at hl 4 rfl) ?_
                                                    refine lv_iconst (v := 4) hx hb dL_law_1408 (by decide) ?_
                                                    refine lv_iadd hx hb dL_law_1409 ?_
                                                    replace h := bd h
                                                    obtain ⟨x431, q430, h⟩ := h
                                                    refine r_scr hx hb hX hbl hbA hS q430 dL_law_1410 ?_
                                                    refine lv_aload_n hx hb dL_law_1411 rfl (lv_at hl 3 rfl) ?_
                                                    replace h := bd h
                                                    obtain ⟨z433, q432, h⟩ := h
                                                    refine c_L_work ⟨hx, hb, hml, hown, hts⟩ hl.1 hK hP hD hA hS hE hNC hl0 wd_846 ⟨(Nat.le_of_ble_eq_true rfl), (Nat.le_of_ble_eq_true rfl)⟩ q432 (Nat.le_of_ble_eq_true rfl) dL_law_1412 ⟨(by show (cs + 0) + 4 ≤ 601024; omega), (by show (sl9 + 0) + 24 ≤ 7293034; omega)⟩ (fun H locs hP hD hS => ?_)
                                                    refine lv_istore (lv' := [(5, .int z433.1), (0, .ref b), (1, .ref y23_1), (2, .ref y23_2), (3, .ref y23_3), (4, .int y23_4)]) hx hb dL_law_1415 hl (by decide) rfl (fun ls hl => ?_)
                                                    refine lv_aload_n hx hb dL_law_1417 rfl (lv_at hl 3 rfl) ?_
                                                    refine lv_aload_n hx hb dL_law_1418 rfl (lv_at hl 1 rfl) ?_
                                                    refine lv_iload hx hb dL_law_1419 (lv_at hl 5 rfl) ?_
                                                    refine lv_iconst (v := 1) hx hb dL_law_1421 (by decide) ?_
                                                    refine lv_iadd hx hb dL_law_1422 ?_
                                                    replace h := bd h
                                                    obtain ⟨x435, q434, h⟩ := h
                                                    refine r_scr hx hb hX hbl hbA hS q434 dL_law_1423 ?_
                                                    refine lv_aload_n hx hb dL_law_1424 rfl (lv_at hl 1 rfl) ?_
                                                    refine lv_iload hx hb dL_law_1425 (lv_at hl 5 rfl) ?_
                                                    refine lv_iconst (v := 2) hx hb dL_law_1427 (by decide) ?_
                                                    refine lv_iadd hx hb dL_law_1428 ?_
                                                    replace h := bd h
                                                    obtain ⟨x437, q436, h⟩ := h
                                                    refine r_scr hx hb hX hbl hbA hS q436 dL_law_1429 ?_
                                                    refine lv_aload_n hx hb dL_law_1430 rfl (lv_at hl 1 rfl) ?_
                                                    refine lv_iload hx hb dL_law_1431 (lv_at hl 5 rfl) ?_
                                                    refine lv_iconst (v := 3) hx hb dL_law_1433 (by decide) ?_
                                                    refine lv_iadd hx hb dL_law_1434 ?_
                                                    replace h := bd h
                                                    obtain ⟨x439, q438, h⟩ := h
                                                    refine r_scr hx hb hX hbl hbA hS q438 dL_law_1435 ?_
                                                    refine lv_aload_n hx hb dL_law_1436 rfl (lv_at hl 1 rfl) ?_
                                                    refine lv_iload hx hb dL_law_1437 (lv_at hl 5 rfl) ?_
                                                    refine lv_iconst (v := 4) hx hb dL_law_1439 (by decide) ?_
                                                    refine lv_iadd hx hb dL_law_1440 ?_
                                                    replace h := bd h
                                                    obtain ⟨x441, q440, h⟩ := h
                                                    refine r_scr hx hb hX hbl hbA hS q440 dL_law_1441 ?_
                                                    replace h := bd h
                                                    obtain ⟨_, q442, h⟩ := h
                                                    replace h := bd h
                                                    obtain ⟨z444, q443, h⟩ := h
                                                    refine c_X7_work ⟨hx, hb, hml, hown, hts⟩ hl.1 hK hP hD hA hS wd_1197 ⟨(Nat.le_of_ble_eq_true rfl), (Nat.le_of_ble_eq_true rfl)⟩ q443 q442 (Nat.le_of_ble_eq_true rfl) dL_law_1442 ⟨(by show (cs + 4) + 0 ≤ 601024; omega), (by show (sl9 + 24) + 0 ≤ 7293034; omega)⟩ (fun H locs hP hD hS => ?_)
                                                    refine lv_istore (lv' := [(6, .int z444.1), (5, .int z433.1), (0, .ref b), (1, .ref y23_1), (2, .ref y23_2), (3, .ref y23_3), (4, .int y23_4)]) hx hb dL_law_1445 hl (by decide) rfl (fun ls hl => ?_)
                                                    refine lv_aload_n hx hb dL_law_1447 rfl (lv_at hl 4 rfl) ?_
                                                    replace h := bd h
                                                    obtain ⟨_, q445, h⟩ := h
                                                    replace h := bd h
                                                    obtain ⟨x447, q446, h⟩ := h
                                                    refine c_X7_thrown ⟨hx, hb, hml, hown, hts⟩ hl.1 hK hP hS wd_927 ⟨(Nat.le_of_ble_eq_true rfl), (Nat.le_of_ble_eq_true rfl)⟩ q446 q445 (Nat.le_of_ble_eq_true rfl) dL_law_1448 ⟨(by show (cs + 4) + 0 ≤ 601024; omega), (by show (sl9 + 24) + 0 ≤ 7293034; omega)⟩ (fun H locs hP hS => ?_)
                                                    refine lv_iload hx hb dL_law_1451 (lv_at hl 1 rfl) ?_
                                                    refine lv_icmp_eq (tgt := 1458) hx hb dL_law_1453 (by decide) (fun c448 => ?_) (fun c448 => ?_)
                                                    · replace h := ifp c448 h
                                                      refine lv_iload hx hb dL_law_1458 (lv_at hl 1 rfl) ?_
                                                      refine lv_if_ne (tgt := 1475) hx hb dL_law_1460 (by decide) (fun c449 => ?_) (fun c449 => ?_)
                                                      · replace h := ifn c449 h
                                                        refine lv_goto (tgt := 1781) hx hb dL_law_1475 (by decide) ?_
                                                        refine lv_iinc (v := (y23_4 + 5)) (lv' := [(4, .int (y23_4 + 5)), (6, .int z444.1), (5, .int z433.1), (0, .ref b), (1, .ref y23_1), (2, .ref y23_2), (3, .ref y23_3)]) hx hb dL_law_1781 hl (k := 6) rfl rfl (by decide) rfl (fun ls hl => ?_)
                                                        refine lv_goto (tgt := 23) hx hb dL_law_1784 (by decide) ?_
                                                        exact ih z444.2 (y23_4 + 5) _ h (cs + 4) (sl9 + 24) (by omega) (by omega) _ _ _ hP hD hS (lv_sub hl [3, 4, 5, 6, 0] rfl) hret hexit
                                                      · replace h := ifp c449 h
                                                        refine lv_aload_n hx hb dL_law_1463 rfl (lv_at hl 5 rfl) ?_
                                                        refine lv_iconst (v := 0) hx hb dL_law_1464 (by decide) ?_
                                                        replace h := bd h
                                                        obtain ⟨x450, q451, h⟩ := h
                                                        refine r_aJ hx hb hK hP q451 dL_law_1465 ?_
                                                        refine lv_iload hx hb dL_law_1466 (lv_at hl 0 rfl) ?_
                                                        refine lv_i2l (v := (Int32.toInt64 z444.1)) hx hb dL_law_1468 rfl ?_
                                                        refine W.lcmp hx hb dL_law_1469 ?_
                                                        refine lv_if_eq (tgt := 1475) hx hb dL_law_1470 (by decide) (fun c452 => ?_) (fun c452 => ?_)
                                                        · replace h := ifp c452 h
                                                          refine lv_goto (tgt := 1781) hx hb dL_law_1475 (by decide) ?_
                                                          refine lv_iinc (v := (y23_4 + 5)) (lv' := [(4, .int (y23_4 + 5)), (6, .int z444.1), (5, .int z433.1), (0, .ref b), (1, .ref y23_1), (2, .ref y23_2), (3, .ref y23_3)]) hx hb dL_law_1781 hl (k := 6) rfl rfl (by decide) rfl (fun ls hl => ?_)
                                                          refine lv_goto (tgt := 23) hx hb dL_law_1784 (by decide) ?_
                                                          exact ih z444.2 (y23_4 + 5) _ h (cs + 4) (sl9 + 24) (by omega) (by omega) _ _ _ hP hD hS (lv_sub hl [3, 4, 5, 6, 0] rfl) hret hexit
                                                        · replace h := ifn c452 h
                                                          refine lv_iconst (v := 0) hx hb dL_law_1473 (by decide) ?_
                                                          cases h
                                                          exact absurd (hret _ rfl) (by decide)
                                                    · replace h := ifn c448 h
                                                      refine lv_iconst (v := 0) hx hb dL_law_1456 (by decide) ?_
                                                      cases h
                                                      exact absurd (hret _ rfl) (by decide)
                                                  · replace h := ifn c35 h
                                                    by_cases c36 : (x13 &&& 31) = 22
                                                    · replace h := ifp c36 h
                                                      refine lv_tableIn (off := 1439) (tgt := 1478) hx hb dL_law_39 (by rw [c36]; decide) (by rw [c36]; decide) (by rw [c36]; rfl) (by decide) ?_
                                                      refine lv_aload_n hx hb dL_law_1478 rfl (lv_at hl 1 rfl) ?_
                                                      refine lv_aload_n hx hb dL_law_1479 rfl (lv_at hl 0 rfl) ?_
                                                      refine lv_iload hx hb dL_law_1480 (lv_at hl 4 rfl) ?_
                                                      refine lv_iconst (v := 1) hx hb dL_law_1482 (by decide) ?_
                                                      refine lv_iadd hx hb dL_law_1483 ?_
                                                      replace h := bd h
                                                      obtain ⟨x454, q453, h⟩ := h
                                                      refine r_scr hx hb hX hbl hbA hS q453 dL_law_1484 ?_
                                                      refine lv_aload_n hx hb dL_law_1485 rfl (lv_at hl 0 rfl) ?_
                                                      refine lv_iload hx hb dL_law_1486 (lv_at hl 4 rfl) ?_
                                                      refine lv_iconst (v := 2) hx hb dL_law_1488 (by decide) ?_
                                                      refine lv_iadd hx hb dL_law_1489 ?_
                                                      replace h := bd h
                                                      obtain ⟨x456, q455, h⟩ := h
                                                      refine r_scr hx hb hX hbl hbA hS q455 dL_law_1490 ?_
                                                      refine lv_aload_n hx hb dL_law_1491 rfl (lv_at hl 3 rfl) ?_
                                                      replace h := bd h
                                                      obtain ⟨z458, q457, h⟩ := h
                                                      refine c_L_regretIn ⟨hx, hb, hml, hown, hts⟩ hl.1 hK hP hD hA hS hE hNC hl0 wd_853 ⟨(Nat.le_of_ble_eq_true rfl), (Nat.le_of_ble_eq_true rfl)⟩ q457 (Nat.le_of_ble_eq_true rfl) dL_law_1492 ⟨(by show (cs + 0) + 2 ≤ 601024; omega), (by show (sl9 + 0) + 12 ≤ 7293034; omega)⟩ (fun H locs hP hD hS => ?_)
                                                      refine lv_istore (lv' := [(5, .int z458.1), (0, .ref b), (1, .ref y23_1), (2, .ref y23_2), (3, .ref y23_3), (4, .int y23_4)]) hx hb dL_law_1495 hl (by decide) rfl (fun ls hl => ?_)
                                                      refine lv_aload_n hx hb dL_law_1497 rfl (lv_at hl 3 rfl) ?_
                                                      refine lv_aload_n hx hb dL_law_1498 rfl (lv_at hl 1 rfl) ?_
                                                      refine lv_iload hx hb dL_law_1499 (lv_at hl 5 rfl) ?_
                                                      refine lv_iconst (v := 1) hx hb dL_law_1501 (by decide) ?_
                                                      refine lv_iadd hx hb dL_law_1502 ?_
                                                      replace h := bd h
                                                      obtain ⟨x460, q459, h⟩ := h
                                                      refine r_scr hx hb hX hbl hbA hS q459 dL_law_1503 ?_
                                                      refine lv_aload_n hx hb dL_law_1504 rfl (lv_at hl 1 rfl) ?_
                                                      refine lv_iload hx hb dL_law_1505 (lv_at hl 5 rfl) ?_
                                                      refine lv_iconst (v := 2) hx hb dL_law_1507 (by decide) ?_
                                                      refine lv_iadd hx hb dL_law_1508 ?_
                                                      replace h := bd h
                                                      obtain ⟨x462, q461, h⟩ := h
                                                      refine r_scr hx hb hX hbl hbA hS q461 dL_law_1509 ?_
                                                      replace h := bd h
                                                      obtain ⟨_, q463, h⟩ := h
                                                      replace h := bd h
                                                      obtain ⟨z465, q464, h⟩ := h
                                                      refine c_X7_regretIn ⟨hx, hb, hml, hown, hts⟩ hl.1 hK hP hD hA hS wd_1205 ⟨(Nat.le_of_ble_eq_true rfl), (Nat.le_of_ble_eq_true rfl)⟩ q464 q463 (Nat.le_of_ble_eq_true rfl) dL_law_1510 ⟨(by show (cs + 2) + 0 ≤ 601024; omega), (by show (sl9 + 12) + 0 ≤ 7293034; omega)⟩ (fun H locs hP hD hS => ?_)
                                                      refine lv_istore (lv' := [(6, .int z465.1), (5, .int z458.1), (0, .ref b), (1, .ref y23_1), (2, .ref y23_2), (3, .ref y23_3), (4, .int y23_4)]) hx hb dL_law_1513 hl (by decide) rfl (fun ls hl => ?_)
                                                      refine lv_aload_n hx hb dL_law_1515 rfl (lv_at hl 4 rfl) ?_
                                                      replace h := bd h
                                                      obtain ⟨_, q466, h⟩ := h
                                                      replace h := bd h
                                                      obtain ⟨x468, q467, h⟩ := h
                                                      refine c_X7_thrown ⟨hx, hb, hml, hown, hts⟩ hl.1 hK hP hS wd_927 ⟨(Nat.le_of_ble_eq_true rfl), (Nat.le_of_ble_eq_true rfl)⟩ q467 q466 (Nat.le_of_ble_eq_true rfl) dL_law_1516 ⟨(by show (cs + 2) + 0 ≤ 601024; omega), (by show (sl9 + 12) + 0 ≤ 7293034; omega)⟩ (fun H locs hP hS => ?_)
                                                      refine lv_iload hx hb dL_law_1519 (lv_at hl 1 rfl) ?_
                                                      refine lv_icmp_eq (tgt := 1526) hx hb dL_law_1521 (by decide) (fun c469 => ?_) (fun c469 => ?_)
                                                      · replace h := ifp c469 h
                                                        refine lv_iload hx hb dL_law_1526 (lv_at hl 1 rfl) ?_
                                                        refine lv_if_ne (tgt := 1543) hx hb dL_law_1528 (by decide) (fun c470 => ?_) (fun c470 => ?_)
                                                        · replace h := ifn c470 h
                                                          refine lv_goto (tgt := 1781) hx hb dL_law_1543 (by decide) ?_
                                                          refine lv_iinc (v := (y23_4 + 5)) (lv' := [(4, .int (y23_4 + 5)), (6, .int z465.1), (5, .int z458.1), (0, .ref b), (1, .ref y23_1), (2, .ref y23_2), (3, .ref y23_3)]) hx hb dL_law_1781 hl (k := 6) rfl rfl (by decide) rfl (fun ls hl => ?_)
                                                          refine lv_goto (tgt := 23) hx hb dL_law_1784 (by decide) ?_
                                                          exact ih z465.2 (y23_4 + 5) _ h (cs + 2) (sl9 + 12) (by omega) (by omega) _ _ _ hP hD hS (lv_sub hl [3, 4, 5, 6, 0] rfl) hret hexit
                                                        · replace h := ifp c470 h
                                                          refine lv_aload_n hx hb dL_law_1531 rfl (lv_at hl 5 rfl) ?_
                                                          refine lv_iconst (v := 0) hx hb dL_law_1532 (by decide) ?_
                                                          replace h := bd h
                                                          obtain ⟨x471, q472, h⟩ := h
                                                          refine r_aJ hx hb hK hP q472 dL_law_1533 ?_
                                                          refine lv_iload hx hb dL_law_1534 (lv_at hl 0 rfl) ?_
                                                          refine lv_i2l (v := (Int32.toInt64 z465.1)) hx hb dL_law_1536 rfl ?_
                                                          refine W.lcmp hx hb dL_law_1537 ?_
                                                          refine lv_if_eq (tgt := 1543) hx hb dL_law_1538 (by decide) (fun c473 => ?_) (fun c473 => ?_)
                                                          · replace h := ifp c473 h
                                                            refine lv_goto (tgt := 1781) hx hb dL_law_1543 (by decide) ?_
                                                            refine lv_iinc (v := (y23_4 + 5)) (lv' := [(4, .int (y23_4 + 5)), (6, .int z465.1), (5, .int z458.1), (0, .ref b), (1, .ref y23_1), (2, .ref y23_2), (3, .ref y23_3)]) hx hb dL_law_1781 hl (k := 6) rfl rfl (by decide) rfl (fun ls hl => ?_)
                                                            refine lv_goto (tgt := 23) hx hb dL_law_1784 (by decide) ?_
                                                            exact ih z465.2 (y23_4 + 5) _ h (cs + 2) (sl9 + 12) (by omega) (by omega) _ _ _ hP hD hS (lv_sub hl [3, 4, 5, 6, 0] rfl) hret hexit
                                                          · replace h := ifn c473 h
                                                            refine lv_iconst (v := 0) hx hb dL_law_1541 (by decide) ?_
                                                            cases h
                                                            exact absurd (hret _ rfl) (by decide)
                                                      · replace h := ifn c469 h
                                                        refine lv_iconst (v := 0) hx hb dL_law_1524 (by decide) ?_
                                                        cases h
                                                        exact absurd (hret _ rfl) (by decide)
                                                    · replace h := ifn c36 h
                                                      by_cases c37 : (x13 &&& 31) = 23
                                                      · replace h := ifp c37 h
                                                        refine lv_tableIn (off := 1507) (tgt := 1546) hx hb dL_law_39 (by rw [c37]; decide) (by rw [c37]; decide) (by rw [c37]; rfl) (by decide) ?_
                                                        refine lv_aload_n hx hb dL_law_1546 rfl (lv_at hl 1 rfl) ?_
                                                        refine lv_aload_n hx hb dL_law_1547 rfl (lv_at hl 0 rfl) ?_
                                                        refine lv_iload hx hb dL_law_1548 (lv_at hl 4 rfl) ?_
                                                        refine lv_iconst (v := 1) hx hb dL_law_1550 (by decide) ?_
                                                        refine lv_iadd hx hb dL_law_1551 ?_
                                                        replace h := bd h
                                                        obtain ⟨x475, q474, h⟩ := h
                                                        refine r_scr hx hb hX hbl hbA hS q474 dL_law_1552 ?_
                                                        refine lv_aload_n hx hb dL_law_1553 rfl (lv_at hl 3 rfl) ?_
                                                        replace h := bd h
                                                        obtain ⟨z477, q476, h⟩ := h
                                                        refine c_L_gain ⟨hx, hb, hml, hown, hts⟩ hl.1 hK hP hD hA hS hE hNC hl0 wd_860 ⟨(Nat.le_of_ble_eq_true rfl), (Nat.le_of_ble_eq_true rfl)⟩ q476 (Nat.le_of_ble_eq_true rfl) dL_law_1554 ⟨(by show (cs + 0) + 1 ≤ 601024; omega), (by show (sl9 + 0) + 6 ≤ 7293034; omega)⟩ (fun H locs hP hD hS => ?_)
                                                        refine lv_istore (lv' := [(5, .int z477.1), (0, .ref b), (1, .ref y23_1), (2, .ref y23_2), (3, .ref y23_3), (4, .int y23_4)]) hx hb dL_law_1557 hl (by decide) rfl (fun ls hl => ?_)
                                                        refine lv_aload_n hx hb dL_law_1559 rfl (lv_at hl 3 rfl) ?_
                                                        refine lv_aload_n hx hb dL_law_1560 rfl (lv_at hl 1 rfl) ?_
                                                        refine lv_iload hx hb dL_law_1561 (lv_at hl 5 rfl) ?_
                                                        refine lv_iconst (v := 1) hx hb dL_law_1563 (by decide) ?_
                                                        refine lv_iadd hx hb dL_law_1564 ?_
                                                        replace h := bd h
                                                        obtain ⟨x479, q478, h⟩ := h
                                                        refine r_scr hx hb hX hbl hbA hS q478 dL_law_1565 ?_
                                                        replace h := bd h
                                                        obtain ⟨_, q480, h⟩ := h
                                                        replace h := bd h
                                                        obtain ⟨z482, q481, h⟩ := h
                                                        refine c_X7_gain ⟨hx, hb, hml, hown, hts⟩ hl.1 hK hP hD hA hS wd_1213 ⟨(Nat.le_of_ble_eq_true rfl), (Nat.le_of_ble_eq_true rfl)⟩ q481 q480 (Nat.le_of_ble_eq_true rfl) dL_law_1566 ⟨(by show (cs + 1) + 0 ≤ 601024; omega), (by show (sl9 + 6) + 0 ≤ 7293034; omega)⟩ (fun H locs hP hD hS => ?_)
                                                        refine lv_istore (lv' := [(6, .int z482.1), (5, .int z477.1), (0, .ref b), (1, .ref y23_1), (2, .ref y23_2), (3, .ref y23_3), (4, .int y23_4)]) hx hb dL_law_1569 hl (by decide) rfl (fun ls hl => ?_)
                                                        refine lv_aload_n hx hb dL_law_1571 rfl (lv_at hl 4 rfl) ?_
                                                        replace h := bd h
                                                        obtain ⟨_, q483, h⟩ := h
                                                        replace h := bd h
                                                        obtain ⟨x485, q484, h⟩ := h
                                                        refine c_X7_thrown ⟨hx, hb, hml, hown, hts⟩ hl.1 hK hP hS wd_927 ⟨(Nat.le_of_ble_eq_true rfl), (Nat.le_of_ble_eq_true rfl)⟩ q484 q483 (Nat.le_of_ble_eq_true rfl) dL_law_1572 ⟨(by show (cs + 1) + 0 ≤ 601024; omega), (by show (sl9 + 6) + 0 ≤ 7293034; omega)⟩ (fun H locs hP hS => ?_)
                                                        refine lv_iload hx hb dL_law_1575 (lv_at hl 1 rfl) ?_
                                                        refine lv_icmp_eq (tgt := 1582) hx hb dL_law_1577 (by decide) (fun c486 => ?_) (fun c486 => ?_)
                                                        · replace h := ifp c486 h
                                                          refine lv_iload hx hb dL_law_1582 (lv_at hl 1 rfl) ?_
                                                          refine lv_if_ne (tgt := 1599) hx hb dL_law_1584 (by decide) (fun c487 => ?_) (fun c487 => ?_)
                                                          · replace h := ifn c487 h
                                                            refine lv_goto (tgt := 1781) hx hb dL_law_1599 (by decide) ?_
                                                            refine lv_iinc (v := (y23_4 + 5)) (lv' := [(4, .int (y23_4 + 5)), (6, .int z482.1), (5, .int z477.1), (0, .ref b), (1, .ref y23_1), (2, .ref y23_2), (3, .ref y23_3)]) hx hb dL_law_1781 hl (k := 6) rfl rfl (by decide) rfl (fun ls hl => ?_)
                                                            refine lv_goto (tgt := 23) hx hb dL_law_1784 (by decide) ?_
                                                            exact ih z482.2 (y23_4 + 5) _ h (cs + 1) (sl9 + 6) (by omega) (by omega) _ _ _ hP hD hS (lv_sub hl [3, 4, 5, 6, 0] rfl) hret hexit
                                                          · replace h := ifp c487 h
                                                            refine lv_aload_n hx hb dL_law_1587 rfl (lv_at hl 5 rfl) ?_
                                                            refine lv_iconst (v := 0) hx hb dL_law_1588 (by decide) ?_
                                                            replace h := bd h
                                                            obtain ⟨x488, q489, h⟩ := h
                                                            refine r_aJ hx hb hK hP q489 dL_law_1589 ?_
                                                            refine lv_iload hx hb dL_law_1590 (lv_at hl 0 rfl) ?_
                                                            refine lv_i2l (v := (Int32.toInt64 z482.1)) hx hb dL_law_1592 rfl ?_
                                                            refine W.lcmp hx hb dL_law_1593 ?_
                                                            refine lv_if_eq (tgt := 1599) hx hb dL_law_1594 (by decide) (fun c490 => ?_) (fun c490 => ?_)
                                                            · replace h := ifp c490 h
                                                              refine lv_goto (tgt := 1781) hx hb dL_law_1599 (by decide) ?_
                                                              refine lv_iinc (v := (y23_4 + 5)) (lv' := [(4, .int (y23_4 + 5)), (6, .int z482.1), (5, .int z477.1), (0, .ref b), (1, .ref y23_1), (2, .ref y23_2), (3, .ref y23_3)]) hx hb dL_law_1781 hl (k := 6) rfl rfl (by decide) rfl (fun ls hl => ?_)
                                                              refine lv_goto (tgt := 23) hx hb dL_law_1784 (by decide) ?_
                                                              exact ih z482.2 (y23_4 + 5) _ h (cs + 1) (sl9 + 6) (by omega) (by omega) _ _ _ hP hD hS (lv_sub hl [3, 4, 5, 6, 0] rfl) hret hexit
                                                            · replace h := ifn c490 h
                                                              refine lv_iconst (v := 0) hx hb dL_law_1597 (by decide) ?_
                                                              cases h
                                                              exact absurd (hret _ rfl) (by decide)
                                                        · replace h := ifn c486 h
                                                          refine lv_iconst (v := 0) hx hb dL_law_1580 (by decide) ?_
                                                          cases h
                                                          exact absurd (hret _ rfl) (by decide)
                                                      · replace h := ifn c37 h
                                                        by_cases c38 : (x13 &&& 31) = 24
                                                        · replace h := ifp c38 h
                                                          refine lv_tableIn (off := 1563) (tgt := 1602) hx hb dL_law_39 (by rw [c38]; decide) (by rw [c38]; decide) (by rw [c38]; rfl) (by decide) ?_
                                                          refine lv_aload_n hx hb dL_law_1602 rfl (lv_at hl 1 rfl) ?_
                                                          refine lv_aload_n hx hb dL_law_1603 rfl (lv_at hl 0 rfl) ?_
                                                          refine lv_iload hx hb dL_law_1604 (lv_at hl 4 rfl) ?_
                                                          refine lv_iconst (v := 1) hx hb dL_law_1606 (by decide) ?_
                                                          refine lv_iadd hx hb dL_law_1607 ?_
                                                          replace h := bd h
                                                          obtain ⟨x492, q491, h⟩ := h
                                                          refine r_scr hx hb hX hbl hbA hS q491 dL_law_1608 ?_
                                                          refine lv_aload_n hx hb dL_law_1609 rfl (lv_at hl 0 rfl) ?_
                                                          refine lv_iload hx hb dL_law_1610 (lv_at hl 4 rfl) ?_
                                                          refine lv_iconst (v := 2) hx hb dL_law_1612 (by decide) ?_
                                                          refine lv_iadd hx hb dL_law_1613 ?_
                                                          replace h := bd h
                                                          obtain ⟨x494, q493, h⟩ := h
                                                          refine r_scr hx hb hX hbl hbA hS q493 dL_law_1614 ?_
                                                          refine lv_aload_n hx hb dL_law_1615 rfl (lv_at hl 3 rfl) ?_
                                                          replace h := bd h
                                                          obtain ⟨z496, q495, h⟩ := h
                                                          refine c_L_cheapest ⟨hx, hb, hml, hown, hts⟩ hl.1 hK hP hD hA hS hE hNC hl0 wd_867 ⟨(Nat.le_of_ble_eq_true rfl), (Nat.le_of_ble_eq_true rfl)⟩ q495 (Nat.le_of_ble_eq_true rfl) dL_law_1616 ⟨(by show (cs + 0) + 2 ≤ 601024; omega), (by show (sl9 + 0) + 12 ≤ 7293034; omega)⟩ (fun H locs hP hD hS => ?_)
                                                          refine lv_istore (lv' := [(5, .int z496.1), (0, .ref b), (1, .ref y23_1), (2, .ref y23_2), (3, .ref y23_3), (4, .int y23_4)]) hx hb dL_law_1619 hl (by decide) rfl (fun ls hl => ?_)
                                                          refine lv_aload_n hx hb dL_law_1621 rfl (lv_at hl 3 rfl) ?_
                                                          refine lv_aload_n hx hb dL_law_1622 rfl (lv_at hl 1 rfl) ?_
                                                          refine lv_iload hx hb dL_law_1623 (lv_at hl 5 rfl) ?_
                                                          refine lv_iconst (v := 1) hx hb dL_law_1625 (by decide) ?_
                                                          refine lv_iadd hx hb dL_law_1626 ?_
                                                          replace h := bd h
                                                          obtain ⟨x498, q497, h⟩ := h
                                                          refine r_scr hx hb hX hbl hbA hS q497 dL_law_1627 ?_
                                                          refine lv_aload_n hx hb dL_law_1628 rfl (lv_at hl 1 rfl) ?_
                                                          refine lv_iload hx hb dL_law_1629 (lv_at hl 5 rfl) ?_
                                                          refine lv_iconst (v := 2) hx hb dL_law_1631 (by decide) ?_
                                                          refine lv_iadd hx hb dL_law_1632 ?_
                                                          replace h := bd h
                                                          obtain ⟨x500, q499, h⟩ := h
                                                          refine r_scr hx hb hX hbl hbA hS q499 dL_law_1633 ?_
                                                          replace h := bd h
                                                          obtain ⟨_, q501, h⟩ := h
                                                          replace h := bd h
                                                          obtain ⟨z503, q502, h⟩ := h
                                                          refine c_X7_cheapest ⟨hx, hb, hml, hown, hts⟩ hl.1 hK hP hD hA hS wd_1221 ⟨(Nat.le_of_ble_eq_true rfl), (Nat.le_of_ble_eq_true rfl)⟩ q502 q501 (Nat.le_of_ble_eq_true rfl) dL_law_1634 ⟨(by show (cs + 2) + 0 ≤ 601024; omega), (by show (sl9 + 12) + 0 ≤ 7293034; omega)⟩ (fun H locs hP hD hS => ?_)
                                                          refine lv_istore (lv' := [(6, .int z503.1), (5, .int z496.1), (0, .ref b), (1, .ref y23_1), (2, .ref y23_2), (3, .ref y23_3), (4, .int y23_4)]) hx hb dL_law_1637 hl (by decide) rfl (fun ls hl => ?_)
                                                          refine lv_aload_n hx hb dL_law_1639 rfl (lv_at hl 4 rfl) ?_
                                                          replace h := bd h
                                                          obtain ⟨_, q504, h⟩ := h
                                                          replace h := bd h
                                                          obtain ⟨x506, q505, h⟩ := h
                                                          refine c_X7_thrown ⟨hx, hb, hml, hown, hts⟩ hl.1 hK hP hS wd_927 ⟨(Nat.le_of_ble_eq_true rfl), (Nat.le_of_ble_eq_true rfl)⟩ q505 q504 (Nat.le_of_ble_eq_true rfl) dL_law_1640 ⟨(by show (cs + 2) + 0 ≤ 601024; omega), (by show (sl9 + 12) + 0 ≤ 7293034; omega)⟩ (fun H locs hP hS => ?_)
                                                          refine lv_iload hx hb dL_law_1643 (lv_at hl 1 rfl) ?_
                                                          refine lv_icmp_eq (tgt := 1650) hx hb dL_law_1645 (by decide) (fun c507 => ?_) (fun c507 => ?_)
                                                          · replace h := ifp c507 h
                                                            refine lv_iload hx hb dL_law_1650 (lv_at hl 1 rfl) ?_
                                                            refine lv_if_ne (tgt := 1667) hx hb dL_law_1652 (by decide) (fun c508 => ?_) (fun c508 => ?_)
                                                            · replace h := ifn c508 h
                                                              refine lv_goto (tgt := 1781) hx hb dL_law_1667 (by decide) ?_
                                                              refine lv_iinc (v := (y23_4 + 5)) (lv' := [(4, .int (y23_4 + 5)), (6, .int z503.1), (5, .int z496.1), (0, .ref b), (1, .ref y23_1), (2, .ref y23_2), (3, .ref y23_3)]) hx hb dL_law_1781 hl (k := 6) rfl rfl (by decide) rfl (fun ls hl => ?_)
                                                              refine lv_goto (tgt := 23) hx hb dL_law_1784 (by decide) ?_
                                                              exact ih z503.2 (y23_4 + 5) _ h (cs + 2) (sl9 + 12) (by omega) (by omega) _ _ _ hP hD hS (lv_sub hl [3, 4, 5, 6, 0] rfl) hret hexit
                                                            · replace h := ifp c508 h
                                                              refine lv_aload_n hx hb dL_law_1655 rfl (lv_at hl 5 rfl) ?_
                                                              refine lv_iconst (v := 0) hx hb dL_law_1656 (by decide) ?_
                                                              replace h := bd h
                                                              obtain ⟨x509, q510, h⟩ := h
                                                              refine r_aJ hx hb hK hP q510 dL_law_1657 ?_
                                                              refine lv_iload hx hb dL_law_1658 (lv_at hl 0 rfl) ?_
                                                              refine lv_i2l (v := (Int32.toInt64 z503.1)) hx hb dL_law_1660 rfl ?_
                                                              refine W.lcmp hx hb dL_law_1661 ?_
                                                              refine lv_if_eq (tgt := 1667) hx hb dL_law_1662 (by decide) (fun c511 => ?_) (fun c511 => ?_)
                                                              · replace h := ifp c511 h
                                                                refine lv_goto (tgt := 1781) hx hb dL_law_1667 (by decide) ?_
                                                                refine lv_iinc (v := (y23_4 + 5)) (lv' := [(4, .int (y23_4 + 5)), (6, .int z503.1), (5, .int z496.1), (0, .ref b), (1, .ref y23_1), (2, .ref y23_2), (3, .ref y23_3)]) hx hb dL_law_1781 hl (k := 6) rfl rfl (by decide) rfl (fun ls hl => ?_)
                                                                refine lv_goto (tgt := 23) hx hb dL_law_1784 (by decide) ?_
                                                                exact ih z503.2 (y23_4 + 5) _ h (cs + 2) (sl9 + 12) (by omega) (by omega) _ _ _ hP hD hS (lv_sub hl [3, 4, 5, 6, 0] rfl) hret hexit
                                                              · replace h := ifn c511 h
                                                                refine lv_iconst (v := 0) hx hb dL_law_1665 (by decide) ?_
                                                                cases h
                                                                exact absurd (hret _ rfl) (by decide)
                                                          · replace h := ifn c507 h
                                                            refine lv_iconst (v := 0) hx hb dL_law_1648 (by decide) ?_
                                                            cases h
                                                            exact absurd (hret _ rfl) (by decide)
                                                        · replace h := ifn c38 h
                                                          by_cases c39 : (x13 &&& 31) = 25
                                                          · replace h := ifp c39 h
                                                            refine lv_tableIn (off := 1631) (tgt := 1670) hx hb dL_law_39 (by rw [c39]; decide) (by rw [c39]; decide) (by rw [c39]; rfl) (by decide) ?_
                                                            refine lv_aload_n hx hb dL_law_1670 rfl (lv_at hl 1 rfl) ?_
                                                            refine lv_aload_n hx hb dL_law_1671 rfl (lv_at hl 0 rfl) ?_
                                                            refine lv_iload hx hb dL_law_1672 (lv_at hl 4 rfl) ?_
                                                            refine lv_iconst (v := 1) hx hb dL_law_1674 (by decide) ?_
                                                            refine lv_iadd hx hb dL_law_1675 ?_
                                                            replace h := bd h
                                                            obtain ⟨x513, q512, h⟩ := h
                                                            refine r_scr hx hb hX hbl hbA hS q512 dL_law_1676 ?_
                                                            refine lv_aload_n hx hb dL_law_1677 rfl (lv_at hl 3 rfl) ?_
                                                            replace h := bd h
                                                            obtain ⟨z515, q514, h⟩ := h
                                                            refine c_L_mate ⟨hx, hb, hml, hown, hts⟩ hl.1 hK hP hD hA hS hE hNC hl0 wd_874 ⟨(Nat.le_of_ble_eq_true rfl), (Nat.le_of_ble_eq_true rfl)⟩ q514 (Nat.le_of_ble_eq_true rfl) dL_law_1678 ⟨(by show (cs + 0) + 1 ≤ 601024; omega), (by show (sl9 + 0) + 6 ≤ 7293034; omega)⟩ (fun H locs hP hD hS => ?_)
                                                            refine lv_istore (lv' := [(5, .int z515.1), (0, .ref b), (1, .ref y23_1), (2, .ref y23_2), (3, .ref y23_3), (4, .int y23_4)]) hx hb dL_law_1681 hl (by decide) rfl (fun ls hl => ?_)
                                                            refine lv_aload_n hx hb dL_law_1683 rfl (lv_at hl 3 rfl) ?_
                                                            refine lv_aload_n hx hb dL_law_1684 rfl (lv_at hl 1 rfl) ?_
                                                            refine lv_iload hx hb dL_law_1685 (lv_at hl 5 rfl) ?_
                                                            refine lv_iconst (v := 1) hx hb dL_law_1687 (by decide) ?_
                                                            refine lv_iadd hx hb dL_law_1688 ?_
                                                            replace h := bd h
                                                            obtain ⟨x517, q516, h⟩ := h
                                                            refine r_scr hx hb hX hbl hbA hS q516 dL_law_1689 ?_
                                                            replace h := bd h
                                                            obtain ⟨_, q518, h⟩ := h
                                                            replace h := bd h
                                                            obtain ⟨z520, q519, h⟩ := h
                                                            refine c_X7_mate ⟨hx, hb, hml, hown, hts⟩ hl.1 hK hP hD hA hS wd_1229 ⟨(Nat.le_of_ble_eq_true rfl), (Nat.le_of_ble_eq_true rfl)⟩ q519 q518 (Nat.le_of_ble_eq_true rfl) dL_law_1690 ⟨(by show (cs + 1) + 0 ≤ 601024; omega), (by show (sl9 + 6) + 0 ≤ 7293034; omega)⟩ (fun H locs hP hD hS => ?_)
                                                            refine lv_istore (lv' := [(6, .int z520.1), (5, .int z515.1), (0, .ref b), (1, .ref y23_1), (2, .ref y23_2), (3, .ref y23_3), (4, .int y23_4)]) hx hb dL_law_1693 hl (by decide) rfl (fun ls hl => ?_)
                                                            refine lv_aload_n hx hb dL_law_1695 rfl (lv_at hl 4 rfl) ?_
                                                            replace h := bd h
                                                            obtain ⟨_, q521, h⟩ := h
                                                            replace h := bd h
                                                            obtain ⟨x523, q522, h⟩ := h
                                                            refine c_X7_thrown ⟨hx, hb, hml, hown, hts⟩ hl.1 hK hP hS wd_927 ⟨(Nat.le_of_ble_eq_true rfl), (Nat.le_of_ble_eq_true rfl)⟩ q522 q521 (Nat.le_of_ble_eq_true rfl) dL_law_1696 ⟨(by show (cs + 1) + 0 ≤ 601024; omega), (by show (sl9 + 6) + 0 ≤ 7293034; omega)⟩ (fun H locs hP hS => ?_)
                                                            refine lv_iload hx hb dL_law_1699 (lv_at hl 1 rfl) ?_
                                                            refine lv_icmp_eq (tgt := 1706) hx hb dL_law_1701 (by decide) (fun c524 => ?_) (fun c524 => ?_)
                                                            · replace h := ifp c524 h
                                                              refine lv_iload hx hb dL_law_1706 (lv_at hl 1 rfl) ?_
                                                              refine lv_if_ne (tgt := 1723) hx hb dL_law_1708 (by decide) (fun c525 => ?_) (fun c525 => ?_)
                                                              · replace h := ifn c525 h
                                                                refine lv_goto (tgt := 1781) hx hb dL_law_1723 (by decide) ?_
                                                                refine lv_iinc (v := (y23_4 + 5)) (lv' := [(4, .int (y23_4 + 5)), (6, .int z520.1), (5, .int z515.1), (0, .ref b), (1, .ref y23_1), (2, .ref y23_2), (3, .ref y23_3)]) hx hb dL_law_1781 hl (k := 6) rfl rfl (by decide) rfl (fun ls hl => ?_)
                                                                refine lv_goto (tgt := 23) hx hb dL_law_1784 (by decide) ?_
                                                                exact ih z520.2 (y23_4 + 5) _ h (cs + 1) (sl9 + 6) (by omega) (by omega) _ _ _ hP hD hS (lv_sub hl [3, 4, 5, 6, 0] rfl) hret hexit
                                                              · replace h := ifp c525 h
                                                                refine lv_aload_n hx hb dL_law_1711 rfl (lv_at hl 5 rfl) ?_
                                                                refine lv_iconst (v := 0) hx hb dL_law_1712 (by decide) ?_
                                                                replace h := bd h
                                                                obtain ⟨x526, q527, h⟩ := h
                                                                refine r_aJ hx hb hK hP q527 dL_law_1713 ?_
                                                                refine lv_iload hx hb dL_law_1714 (lv_at hl 0 rfl) ?_
                                                                refine lv_i2l (v := (Int32.toInt64 z520.1)) hx hb dL_law_1716 rfl ?_
                                                                refine W.lcmp hx hb dL_law_1717 ?_
                                                                refine lv_if_eq (tgt := 1723) hx hb dL_law_1718 (by decide) (fun c528 => ?_) (fun c528 => ?_)
                                                                · replace h := ifp c528 h
                                                                  refine lv_goto (tgt := 1781) hx hb dL_law_1723 (by decide) ?_
                                                                  refine lv_iinc (v := (y23_4 + 5)) (lv' := [(4, .int (y23_4 + 5)), (6, .int z520.1), (5, .int z515.1), (0, .ref b), (1, .ref y23_1), (2, .ref y23_2), (3, .ref y23_3)]) hx hb dL_law_1781 hl (k := 6) rfl rfl (by decide) rfl (fun ls hl => ?_)
                                                                  refine lv_goto (tgt := 23) hx hb dL_law_1784 (by decide) ?_
                                                                  exact ih z520.2 (y23_4 + 5) _ h (cs + 1) (sl9 + 6) (by omega) (by omega) _ _ _ hP hD hS (lv_sub hl [3, 4, 5, 6, 0] rfl) hret hexit
                                                                · replace h := ifn c528 h
                                                                  refine lv_iconst (v := 0) hx hb dL_law_1721 (by decide) ?_
                                                                  cases h
                                                                  exact absurd (hret _ rfl) (by decide)
                                                            · replace h := ifn c524 h
                                                              refine lv_iconst (v := 0) hx hb dL_law_1704 (by decide) ?_
                                                              cases h
                                                              exact absurd (hret _ rfl) (by decide)
                                                          · replace h := ifn c39 h
                                                            by_cases c40 : (x13 &&& 31) = 26
                                                            · replace h := ifp c40 h
                                                              refine lv_tableIn (off := 1687) (tgt := 1726) hx hb dL_law_39 (by rw [c40]; decide) (by rw [c40]; decide) (by rw [c40]; rfl) (by decide) ?_
                                                              refine lv_aload_n hx hb dL_law_1726 rfl (lv_at hl 1 rfl) ?_
                                                              replace h := bd h
                                                              obtain ⟨_, q529, h⟩ := h
                                                              replace h := bd h
                                                              obtain ⟨x531, q530, h⟩ := h
                                                              refine c_X6_meanBits ⟨hx, hb, hml, hown, hts⟩ hl.1 hK hP hS wd_259 ⟨(Nat.le_of_ble_eq_true rfl), (Nat.le_of_ble_eq_true rfl)⟩ q530 q529 (Nat.le_of_ble_eq_true rfl) dL_law_1727 ⟨(by show (cs + 0) + 0 ≤ 601024; omega), (by show (sl9 + 0) + 0 ≤ 7293034; omega)⟩ (fun H locs hP hS => ?_)
                                                              refine lv_dstore (lv' := [(5, .double x531), (0, .ref b), (1, .ref y23_1), (2, .ref y23_2), (3, .ref y23_3), (4, .int y23_4)]) hx hb dL_law_1730 hl (by decide) rfl (fun ls hl => ?_)
                                                              refine lv_aload_n hx hb dL_law_1732 rfl (lv_at hl 3 rfl) ?_
                                                              replace h := bd h
                                                              obtain ⟨_, q532, h⟩ := h
                                                              replace h := bd h
                                                              obtain ⟨z534, q533, h⟩ := h
                                                              refine c_X7_meanBits ⟨hx, hb, hml, hown, hts⟩ hl.1 hK hP hD hA hS wd_1237 ⟨(Nat.le_of_ble_eq_true rfl), (Nat.le_of_ble_eq_true rfl)⟩ q533 q532 (Nat.le_of_ble_eq_true rfl) dL_law_1733 ⟨(by show (cs + 0) + 0 ≤ 601024; omega), (by show (sl9 + 0) + 0 ≤ 7293034; omega)⟩ (fun H locs hP hD hS => ?_)
                                                              refine lv_dstore (lv' := [(7, .double z534.1), (5, .double x531), (0, .ref b), (1, .ref y23_1), (2, .ref y23_2), (3, .ref y23_3), (4, .int y23_4)]) hx hb dL_law_1736 hl (by decide) rfl (fun ls hl => ?_)
                                                              refine lv_dload hx hb dL_law_1738 (lv_at hl 1 rfl) ?_
                                                              refine lv_dload hx hb dL_law_1740 (lv_at hl 0 rfl) ?_
                                                              refine lv_dcmp hx hb dL_law_1742 ?_
                                                              refine lv_if_eq (tgt := 1764) hx hb dL_law_1743 (by decide) (fun c535 => ?_) (fun c535 => ?_)
                                                              · replace h := ifp c535 h
                                                                refine lv_goto (tgt := 1781) hx hb dL_law_1764 (by decide) ?_
                                                                refine lv_iinc (v := (y23_4 + 5)) (lv' := [(4, .int (y23_4 + 5)), (7, .double z534.1), (5, .double x531), (0, .ref b), (1, .ref y23_1), (2, .ref y23_2), (3, .ref y23_3)]) hx hb dL_law_1781 hl (k := 6) rfl rfl (by decide) rfl (fun ls hl => ?_)
                                                                refine lv_goto (tgt := 23) hx hb dL_law_1784 (by decide) ?_
                                                                exact ih z534.2 (y23_4 + 5) _ h (cs + 0) (sl9 + 0) (by omega) (by omega) _ _ _ hP hD hS (lv_sub hl [3, 4, 5, 6, 0] rfl) hret hexit
                                                              · replace h := ifn c535 h
                                                                refine lv_dload hx hb dL_law_1746 (lv_at hl 1 rfl) ?_
                                                                refine lv_dload hx hb dL_law_1748 (lv_at hl 1 rfl) ?_
                                                                refine lv_dcmp hx hb dL_law_1750 ?_
                                                                refine lv_if_eq (tgt := 1762) hx hb dL_law_1751 (by decide) (fun c536 => ?_) (fun c536 => ?_)
                                                                · replace h := ifp c536 h
                                                                  refine lv_iconst (v := 0) hx hb dL_law_1762 (by decide) ?_
                                                                  cases h
                                                                  exact absurd (hret _ rfl) (by decide)
                                                                · replace h := ifn c536 h
                                                                  refine lv_dload hx hb dL_law_1754 (lv_at hl 0 rfl) ?_
                                                                  refine lv_dload hx hb dL_law_1756 (lv_at hl 0 rfl) ?_
                                                                  refine lv_dcmp hx hb dL_law_1758 ?_
                                                                  refine lv_if_ne (tgt := 1764) hx hb dL_law_1759 (by decide) (fun c537 => ?_) (fun c537 => ?_)
                                                                  · replace h := ifn c537 h
                                                                    refine lv_goto (tgt := 1781) hx hb dL_law_1764 (by decide) ?_
                                                                    refine lv_iinc (v := (y23_4 + 5)) (lv' := [(4, .int (y23_4 + 5)), (7, .double z534.1), (5, .double x531), (0, .ref b), (1, .ref y23_1), (2, .ref y23_2), (3, .ref y23_3)]) hx hb dL_law_1781 hl (k := 6) rfl rfl (by decide) rfl (fun ls hl => ?_)
                                                                    refine lv_goto (tgt := 23) hx hb dL_law_1784 (by decide) ?_
                                                                    exact ih z534.2 (y23_4 + 5) _ h (cs + 0) (sl9 + 0) (by omega) (by omega) _ _ _ hP hD hS (lv_sub hl [3, 4, 5, 6, 0] rfl) hret hexit
                                                                  · replace h := ifp c537 h
                                                                    refine lv_iconst (v := 0) hx hb dL_law_1762 (by decide) ?_
                                                                    cases h
                                                                    exact absurd (hret _ rfl) (by decide)
                                                            · replace h := ifn c40 h
                                                              by_cases c41 : (x13 &&& 31) = 27
                                                              · replace h := ifp c41 h
                                                                refine lv_tableIn (off := 1728) (tgt := 1767) hx hb dL_law_39 (by rw [c41]; decide) (by rw [c41]; decide) (by rw [c41]; rfl) (by decide) ?_
                                                                refine lv_aload_n hx hb dL_law_1767 rfl (lv_at hl 1 rfl) ?_
                                                                replace h := bd h
                                                                obtain ⟨_, q538, h⟩ := h
                                                                replace h := bd h
                                                                obtain ⟨z540, q539, h⟩ := h
                                                                refine c_X6_digest ⟨hx, hb, hml, hown, hts⟩ hl.1 hK hP hD hA hS wd_326 ⟨(Nat.le_of_ble_eq_true rfl), (Nat.le_of_ble_eq_true rfl)⟩ q539 q538 (Nat.le_of_ble_eq_true rfl) dL_law_1768 ⟨(by show (cs + 0) + 0 ≤ 601024; omega), (by show (sl9 + 0) + 0 ≤ 7293034; omega)⟩ (fun H locs hP hD hS => ?_)
                                                                refine lv_aload_n hx hb dL_law_1771 rfl (lv_at hl 2 rfl) ?_
                                                                replace h := bd h
                                                                obtain ⟨_, q541, h⟩ := h
                                                                replace h := bd h
                                                                obtain ⟨z543, q542, h⟩ := h
                                                                refine c_X7_digest ⟨hx, hb, hml, hown, hts⟩ hl.1 hK hP hD hA hS wd_1245 ⟨(Nat.le_of_ble_eq_true rfl), (Nat.le_of_ble_eq_true rfl)⟩ q542 q541 (Nat.le_of_ble_eq_true rfl) dL_law_1772 ⟨(by show (cs + 0) + 0 ≤ 601024; omega), (by show (sl9 + 0) + 0 ≤ 7293034; omega)⟩ (fun H locs hP hD hS => ?_)
                                                                refine W.lcmp hx hb dL_law_1775 ?_
                                                                refine lv_if_eq (tgt := 1781) hx hb dL_law_1776 (by decide) (fun c544 => ?_) (fun c544 => ?_)
                                                                · replace h := ifp c544 h
                                                                  refine lv_iinc (v := (y23_4 + 5)) (lv' := [(4, .int (y23_4 + 5)), (0, .ref b), (1, .ref y23_1), (2, .ref y23_2), (3, .ref y23_3)]) hx hb dL_law_1781 hl (k := 4) rfl rfl (by decide) rfl (fun ls hl => ?_)
                                                                  refine lv_goto (tgt := 23) hx hb dL_law_1784 (by decide) ?_
                                                                  exact ih z543.2 (y23_4 + 5) _ h (cs + 0) (sl9 + 0) (by omega) (by omega) _ _ _ hP hD hS (lv_sub hl [1, 2, 3, 4, 0] rfl) hret hexit
                                                                · replace h := ifn c544 h
                                                                  refine lv_iconst (v := 0) hx hb dL_law_1779 (by decide) ?_
                                                                  cases h
                                                                  exact absurd (hret _ rfl) (by decide)
                                                              · replace h := ifn c41 h
                                                                refine lv_tableOut (tgt := 1781) hx hb dL_law_39 (tsw_out (x := (x13 &&& 31)) 0 28 (fun k hk => by match k, hk with | 0, _ => exact c14 | 1, _ => exact c15 | 2, _ => exact c16 | 3, _ => exact c17 | 4, _ => exact c18 | 5, _ => exact c19 | 6, _ => exact c20 | 7, _ => exact c21 | 8, _ => exact c22 | 9, _ => exact c23 | 10, _ => exact c24 | 11, _ => exact c25 | 12, _ => exact c26 | 13, _ => exact c27 | 14, _ => exact c28 | 15, _ => exact c29 | 16, _ => exact c30 | 17, _ => exact c31 | 18, _ => exact c32 | 19, _ => exact c33 | 20, _ => exact c34 | 21, _ => exact c35 | 22, _ => exact c36 | 23, _ => exact c37 | 24, _ => exact c38 | 25, _ => exact c39 | 26, _ => exact c40 | 27, _ => exact c41 | k + 28, hk => exact absurd hk (by omega)) (by decide)) (by decide) ?_
                                                                refine lv_iinc (v := (y23_4 + 5)) (lv' := [(4, .int (y23_4 + 5)), (0, .ref b), (1, .ref y23_1), (2, .ref y23_2), (3, .ref y23_3)]) hx hb dL_law_1781 hl (k := 4) rfl rfl (by decide) rfl (fun ls hl => ?_)
                                                                refine lv_goto (tgt := 23) hx hb dL_law_1784 (by decide) ?_
                                                                exact ih S23_ (y23_4 + 5) _ h (cs + 0) (sl9 + 0) (by omega) (by omega) _ _ _ hP hD hS (lv_sub hl [1, 2, 3, 4, 0] rfl) hret hexit
  replace h := bd h
  obtain ⟨z7, q545, h⟩ := h
  refine L23 sz z2.2 z5.2 513 (va_up z5.1 z5.2 (some (arJ 1 (fun _ => 0)))) 0 z7 q545 246 4661 (by decide) (by decide) _ _ _ hP hD hS (lv_sub hl [4, 3, 2, 1, 0] rfl) (fun y hy => by
    replace h := sel_l hy h
    cases h
    rfl) (fun t23_7 hy cz9 sz9 hcz9 hsz9 H locs ls hP hD hS hl => ?_)
  replace h := sel_r hy h
  refine lv_iconst (v := 1) hx hb dL_law_1787 (by decide) ?_
  exact hend _ _ _ _ _ hcz9 hsz9 hS
