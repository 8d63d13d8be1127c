def fL_law_J983 (E : hmG) (x0 : Nat) (K18 : Nat → Nat → Int32 → hmS → Option (Int32 × hmS)) (v1 : Nat) (v2 : Nat) (v3 : Int32) (σ : hmS) : Option (Int32 × hmS) :=
  K18 v1 v2 (v3 + (6 : Int32)) σ
def fL_law_J457 (E : hmG) (x0 : Nat) (K18 : Nat → Nat → Int32 → hmS → Option (Int32 × hmS)) (v1 : Nat) (v2 : Nat) (v3 : Int32) (w0 : Int32) (w1 : Int32) (w2 : Nat) (w3 : Int32) (σ : hmS) : Option (Int32 × hmS) :=
  ob (obC σ w2 10) fun _ => cb (fX8_method w2 w1 w0 σ) fun r4 σ3 => if w3 = r4 then
    fL_law_J983 E x0 K18 v1 v2 v3 σ3
  else
    some ((0 : Int32), σ3)
def fL_law_J435 (E : hmG) (x0 : Nat) (K18 : Nat → Nat → Int32 → hmS → Option (Int32 × hmS)) (v1 : Nat) (v2 : Nat) (v3 : Int32) (w0 : Int32) (w1 : Int32) (w2 : Nat) (σ : hmS) : Option (Int32 × hmS) :=
  ob (obC σ w2 9) fun _ => cb (fX7_method w2 w1 w0 σ) fun r4 σ3 => ob (aI σ3 0 x0 (v3 + (1 : Int32))) fun e5 => ob (aI σ3 0 x0 (v3 + (2 : Int32))) fun e7 => if e7 = 0 then
    fL_law_J457 E x0 K18 v1 v2 v3 (0 : Int32) e5 v2 r4 σ3
  else
    fL_law_J457 E x0 K18 v1 v2 v3 (1 : Int32) e5 v2 r4 σ3
def fL_law_J262 (E : hmG) (x0 : Nat) (K18 : Nat → Nat → Int32 → hmS → Option (Int32 × hmS)) (v1 : Nat) (v2 : Nat) (v3 : Int32) (w0 : Int32) (w1 : Int64) (w2 : Int32) (w3 : Int32) (w4 : Nat) (w5 : Int32) (σ : hmS) : Option (Int32 × hmS) :=
  ob (obC σ w4 10) fun _ => cb (fX8_field w4 w3 w2 w1 w0 σ) fun r4 σ3 => if w5 = r4 then
    fL_law_J983 E x0 K18 v1 v2 v3 σ3
  else
    some ((0 : Int32), σ3)
def fL_law_J215 (E : hmG) (x0 : Nat) (K18 : Nat → Nat → Int32 → hmS → Option (Int32 × hmS)) (v1 : Nat) (v2 : Nat) (v3 : Int32) (w0 : Int32) (w1 : Int64) (w2 : Int32) (w3 : Int32) (w4 : Nat) (σ : hmS) : Option (Int32 × hmS) :=
  ob (obC σ w4 9) fun _ => cb (fX7_field w4 w3 w2 w1 w0 σ) fun r4 σ3 => ob (aI σ3 0 x0 (v3 + (1 : Int32))) fun e5 => ob (aI σ3 0 x0 (v3 + (2 : Int32))) fun e7 => ob (aI σ3 0 x0 (v3 + (3 : Int32))) fun e9 => ob (aI σ3 0 x0 (v3 + (4 : Int32))) fun e11 => ob (aI σ3 0 x0 (v3 + (5 : Int32))) fun e13 => if e13 = 0 then
    fL_law_J262 E x0 K18 v1 v2 v3 (0 : Int32) (((e9).toInt64 <<< (((32 : Int32)).toInt64 &&& 63)) ||| ((e11).toInt64 &&& (4294967295 : Int64))) e7 e5 v2 r4 σ3
  else
    fL_law_J262 E x0 K18 v1 v2 v3 (1 : Int32) (((e9).toInt64 <<< (((32 : Int32)).toInt64 &&& 63)) ||| ((e11).toInt64 &&& (4294967295 : Int64))) e7 e5 v2 r4 σ3
def fL_law_B18 (E : hmG) (x0 : Nat)  (K18 : Nat → Nat → Int32 → hmS → Option (Int32 × hmS)) (v1 : Nat) (v2 : Nat) (v3 : Int32) (σ : hmS) : Option (Int32 × hmS) :=
  ob (aN σ x0) fun n1 => if (n1 - (6 : Int32)) < v3 then
    some ((1 : Int32), σ)
  else
    ob (aI σ 0 x0 v3) fun e4 => if (e4 &&& (31 : Int32)) = (0 : Int32) then
      ob (aI σ 0 x0 (v3 + (1 : Int32))) fun e7 => ob (aI σ 0 x0 (v3 + (2 : Int32))) fun e9 => ob (aI σ 0 x0 (v3 + (3 : Int32))) fun e11 => ob (obC σ v1 9) fun _ => cb (fX7_type E v1 e7 e9 e11 σ) fun r16 σ15 => ob (aI σ15 0 x0 (v3 + (1 : Int32))) fun e17 => ob (aI σ15 0 x0 (v3 + (2 : Int32))) fun e19 => ob (aI σ15 0 x0 (v3 + (3 : Int32))) fun e21 => ob (obC σ15 v2 10) fun _ => cb (fX8_type v2 e17 e19 e21 σ15) fun r26 σ25 => if r16 = r26 then
        fL_law_J983 E x0 K18 v1 v2 v3 σ25
      else
        some ((0 : Int32), σ25)
    else
      if (e4 &&& (31 : Int32)) = (1 : Int32) then
        ob (aI σ 0 x0 (v3 + (1 : Int32))) fun e28 => ob (aI σ 0 x0 (v3 + (2 : Int32))) fun e30 => ob (aI σ 0 x0 (v3 + (3 : Int32))) fun e32 => ob (aI σ 0 x0 (v3 + (4 : Int32))) fun e34 => ob (aI σ 0 x0 (v3 + (5 : Int32))) fun e36 => if e36 = 0 then
          fL_law_J215 E x0 K18 v1 v2 v3 (0 : Int32) (((e32).toInt64 <<< (((32 : Int32)).toInt64 &&& 63)) ||| ((e34).toInt64 &&& (4294967295 : Int64))) e30 e28 v1 σ
        else
          fL_law_J215 E x0 K18 v1 v2 v3 (1 : Int32) (((e32).toInt64 <<< (((32 : Int32)).toInt64 &&& 63)) ||| ((e34).toInt64 &&& (4294967295 : Int64))) e30 e28 v1 σ
      else
        if (e4 &&& (31 : Int32)) = (2 : Int32) then
          ob (aI σ 0 x0 (v3 + (1 : Int32))) fun e39 => ob (aI σ 0 x0 (v3 + (2 : Int32))) fun e41 => ob (aI σ 0 x0 (v3 + (3 : Int32))) fun e43 => ob (aI σ 0 x0 (v3 + (4 : Int32))) fun e45 => ob (obC σ v1 9) fun _ => cb (fX7_local v1 e39 e41 (((e43).toInt64 <<< (((32 : Int32)).toInt64 &&& 63)) ||| ((e45).toInt64 &&& (4294967295 : Int64))) σ) fun r50 σ49 => ob (aI σ49 0 x0 (v3 + (1 : Int32))) fun e51 => ob (aI σ49 0 x0 (v3 + (2 : Int32))) fun e53 => ob (aI σ49 0 x0 (v3 + (3 : Int32))) fun e55 => ob (aI σ49 0 x0 (v3 + (4 : Int32))) fun e57 => ob (obC σ49 v2 10) fun _ => cb (fX8_local v2 e51 e53 (((e55).toInt64 <<< (((32 : Int32)).toInt64 &&& 63)) ||| ((e57).toInt64 &&& (4294967295 : Int64))) σ49) fun r62 σ61 => if r50 = r62 then
            fL_law_J983 E x0 K18 v1 v2 v3 σ61
          else
            some ((0 : Int32), σ61)
        else
          if (e4 &&& (31 : Int32)) = (3 : Int32) then
            ob (aI σ 0 x0 (v3 + (1 : Int32))) fun e64 => ob (aI σ 0 x0 (v3 + (2 : Int32))) fun e66 => ob (aI σ 0 x0 (v3 + (3 : Int32))) fun e68 => ob (aI σ 0 x0 (v3 + (4 : Int32))) fun e70 => ob (obC σ v1 9) fun _ => cb (fX7_assign v1 e64 e66 (((e68).toInt64 <<< (((32 : Int32)).toInt64 &&& 63)) ||| ((e70).toInt64 &&& (4294967295 : Int64))) σ) fun r75 σ74 => ob (aI σ74 0 x0 (v3 + (1 : Int32))) fun e76 => ob (aI σ74 0 x0 (v3 + (2 : Int32))) fun e78 => ob (aI σ74 0 x0 (v3 + (3 : Int32))) fun e80 => ob (aI σ74 0 x0 (v3 + (4 : Int32))) fun e82 => ob (obC σ74 v2 10) fun _ => cb (fX8_assign v2 e76 e78 (((e80).toInt64 <<< (((32 : Int32)).toInt64 &&& 63)) ||| ((e82).toInt64 &&& (4294967295 : Int64))) σ74) fun r87 σ86 => if r75 = r87 then
              fL_law_J983 E x0 K18 v1 v2 v3 σ86
            else
              some ((0 : Int32), σ86)
          else
            if (e4 &&& (31 : Int32)) = (4 : Int32) then
              ob (aI σ 0 x0 (v3 + (1 : Int32))) fun e89 => ob (aI σ 0 x0 (v3 + (2 : Int32))) fun e91 => if e91 = 0 then
                fL_law_J435 E x0 K18 v1 v2 v3 (0 : Int32) e89 v1 σ
              else
                fL_law_J435 E x0 K18 v1 v2 v3 (1 : Int32) e89 v1 σ
            else
              if (e4 &&& (31 : Int32)) = (5 : Int32) then
                ob (aI σ 0 x0 (v3 + (1 : Int32))) fun e94 => ob (aI σ 0 x0 (v3 + (2 : Int32))) fun e96 => ob (obC σ v1 9) fun _ => cb (fX7_parent v1 e94 e96 σ) fun r101 σ100 => ob (aI σ100 0 x0 (v3 + (1 : Int32))) fun e102 => ob (aI σ100 0 x0 (v3 + (2 : Int32))) fun e104 => ob (obC σ100 v2 10) fun _ => cb (fX8_parent v2 e102 e104 σ100) fun r109 σ108 => if r101 = r109 then
                  fL_law_J983 E x0 K18 v1 v2 v3 σ108
                else
                  some ((0 : Int32), σ108)
              else
                if (e4 &&& (31 : Int32)) = (6 : Int32) then
                  ob (aI σ 0 x0 (v3 + (1 : Int32))) fun e111 => ob (aI σ 0 x0 (v3 + (2 : Int32))) fun e113 => ob (obC σ v1 9) fun _ => cb (fX7_name E v1 e111 e113 σ) fun r118 σ117 => ob (aI σ117 0 x0 (v3 + (1 : Int32))) fun e119 => ob (aI σ117 0 x0 (v3 + (2 : Int32))) fun e121 => ob (obC σ117 v2 10) fun _ => cb (fX8_name v2 e119 e121 σ117) fun r126 σ125 => if r118 = r126 then
                    fL_law_J983 E x0 K18 v1 v2 v3 σ125
                  else
                    some ((0 : Int32), σ125)
                else
                  if (e4 &&& (31 : Int32)) = (7 : Int32) then
                    ob (aI σ 0 x0 (v3 + (1 : Int32))) fun e128 => ob (aI σ 0 x0 (v3 + (2 : Int32))) fun e130 => ob (aI σ 0 x0 (v3 + (3 : Int32))) fun e132 => ob (obC σ v1 9) fun _ => cb (fX7_make E v1 e128 e130 e132 σ) fun r137 σ136 => ob (aI σ136 0 x0 (v3 + (1 : Int32))) fun e138 => ob (aI σ136 0 x0 (v3 + (2 : Int32))) fun e140 => ob (aI σ136 0 x0 (v3 + (3 : Int32))) fun e142 => ob (obC σ136 v2 10) fun _ => cb (fX8_make v2 e138 e140 e142 σ136) fun r147 σ146 => if r137 = r147 then
                      fL_law_J983 E x0 K18 v1 v2 v3 σ146
                    else
                      some ((0 : Int32), σ146)
                  else
                    if (e4 &&& (31 : Int32)) = (8 : Int32) then
                      ob (aI σ 0 x0 (v3 + (1 : Int32))) fun e149 => ob (aI σ 0 x0 (v3 + (2 : Int32))) fun e151 => ob (obC σ v1 9) fun _ => cb (fX7_share v1 e149 e151 σ) fun r156 σ155 => ob (aI σ155 0 x0 (v3 + (1 : Int32))) fun e157 => ob (aI σ155 0 x0 (v3 + (2 : Int32))) fun e159 => ob (obC σ155 v2 10) fun _ => cb (fX8_share v2 e157 e159 σ155) fun r164 σ163 => if r156 = r164 then
                        fL_law_J983 E x0 K18 v1 v2 v3 σ163
                      else
                        some ((0 : Int32), σ163)
                    else
                      if (e4 &&& (31 : Int32)) = (9 : Int32) then
                        ob (aI σ 0 x0 (v3 + (1 : Int32))) fun e166 => ob (obC σ v1 9) fun _ => cb (fX7_free v1 e166 σ) fun r171 σ170 => ob (aI σ170 0 x0 (v3 + (1 : Int32))) fun e172 => ob (obC σ170 v2 10) fun _ => cb (fX8_free v2 e172 σ170) fun r177 σ176 => if r171 = r177 then
                          fL_law_J983 E x0 K18 v1 v2 v3 σ176
                        else
                          some ((0 : Int32), σ176)
                      else
                        if (e4 &&& (31 : Int32)) = (10 : Int32) then
                          ob (aI σ 0 x0 (v3 + (1 : Int32))) fun e179 => ob (aI σ 0 x0 (v3 + (2 : Int32))) fun e181 => ob (obC σ v1 9) fun _ => cb (fX7_about v1 e179 e181 σ) fun r186 σ185 => ob (aI σ185 0 x0 (v3 + (1 : Int32))) fun e187 => ob (aI σ185 0 x0 (v3 + (2 : Int32))) fun e189 => ob (obC σ185 v2 10) fun _ => cb (fX8_about v2 e187 e189 σ185) fun r194 σ193 => if r186 = r194 then
                            fL_law_J983 E x0 K18 v1 v2 v3 σ193
                          else
                            some ((0 : Int32), σ193)
                        else
                          if (e4 &&& (31 : Int32)) = (11 : Int32) then
                            ob (aI σ 0 x0 (v3 + (1 : Int32))) fun e196 => ob (aI σ 0 x0 (v3 + (2 : Int32))) fun e198 => ob (obC σ v1 9) fun _ => cb (fX7_same v1 e196 e198 σ) fun r203 σ202 => ob (aI σ202 0 x0 (v3 + (1 : Int32))) fun e204 => ob (aI σ202 0 x0 (v3 + (2 : Int32))) fun e206 => ob (obC σ202 v2 10) fun _ => cb (fX8_same v2 e204 e206 σ202) fun r211 σ210 => if r203 = r211 then
                              fL_law_J983 E x0 K18 v1 v2 v3 σ210
                            else
                              some ((0 : Int32), σ210)
                          else
                            if (e4 &&& (31 : Int32)) = (12 : Int32) then
                              ob (aI σ 0 x0 (v3 + (1 : Int32))) fun e213 => ob (aI σ 0 x0 (v3 + (2 : Int32))) fun e215 => ob (obC σ v1 9) fun _ => cb (fX7_see v1 e213 e215 σ) fun r220 σ219 => ob (aI σ219 0 x0 (v3 + (1 : Int32))) fun e221 => ob (aI σ219 0 x0 (v3 + (2 : Int32))) fun e223 => ob (obC σ219 v2 10) fun _ => cb (fX8_see v2 e221 e223 σ219) fun r228 σ227 => if (lg_cmp r220 r228) = 0 then
                                fL_law_J983 E x0 K18 v1 v2 v3 σ227
                              else
                                some ((0 : Int32), σ227)
                            else
                              if (e4 &&& (31 : Int32)) = (13 : Int32) then
                                ob (aI σ 0 x0 (v3 + (1 : Int32))) fun e230 => ob (aI σ 0 x0 (v3 + (2 : Int32))) fun e232 => ob (aI σ 0 x0 (v3 + (3 : Int32))) fun e234 => ob (aI σ 0 x0 (v3 + (4 : Int32))) fun e236 => ob (obC σ v1 9) fun _ => cb (fX7_put v1 e230 e232 (((e234).toInt64 <<< (((32 : Int32)).toInt64 &&& 63)) ||| ((e236).toInt64 &&& (4294967295 : Int64))) σ) fun r241 σ240 => ob (aI σ240 0 x0 (v3 + (1 : Int32))) fun e242 => ob (aI σ240 0 x0 (v3 + (2 : Int32))) fun e244 => ob (aI σ240 0 x0 (v3 + (3 : Int32))) fun e246 => ob (aI σ240 0 x0 (v3 + (4 : Int32))) fun e248 => ob (obC σ240 v2 10) fun _ => cb (fX8_put_ v2 e242 e244 (((e246).toInt64 <<< (((32 : Int32)).toInt64 &&& 63)) ||| ((e248).toInt64 &&& (4294967295 : Int64))) σ240) fun r253 σ252 => if r241 = r253 then
                                  fL_law_J983 E x0 K18 v1 v2 v3 σ252
                                else
                                  some ((0 : Int32), σ252)
                              else
                                if (e4 &&& (31 : Int32)) = (14 : Int32) then
                                  ob (aI σ 0 x0 (v3 + (1 : Int32))) fun e255 => ob (aI σ 0 x0 (v3 + (2 : Int32))) fun e257 => ob (aI σ 0 x0 (v3 + (3 : Int32))) fun e259 => ob (obC σ v1 9) fun _ => cb (fX7_that v1 e255 e257 e259 σ) fun r264 σ263 => ob (aI σ263 0 x0 (v3 + (1 : Int32))) fun e265 => ob (aI σ263 0 x0 (v3 + (2 : Int32))) fun e267 => ob (aI σ263 0 x0 (v3 + (3 : Int32))) fun e269 => ob (obC σ263 v2 10) fun _ => cb (fX8_that v2 e265 e267 e269 σ263) fun r274 σ273 => if r264 = r274 then
                                    fL_law_J983 E x0 K18 v1 v2 v3 σ273
                                  else
                                    some ((0 : Int32), σ273)
                                else
                                  if (e4 &&& (31 : Int32)) = (15 : Int32) then
                                    ob (aI σ 0 x0 (v3 + (1 : Int32))) fun e276 => ob (aI σ 0 x0 (v3 + (2 : Int32))) fun e278 => ob (obC σ v1 9) fun _ => cb (fX7_constant v1 e276 e278 σ) fun r283 σ282 => ob (aI σ282 0 x0 (v3 + (1 : Int32))) fun e284 => ob (aI σ282 0 x0 (v3 + (2 : Int32))) fun e286 => ob (obC σ282 v2 10) fun _ => cb (fX8_constant v2 e284 e286 σ282) fun r291 σ290 => if (lg_cmp r283 r291) = 0 then
                                      fL_law_J983 E x0 K18 v1 v2 v3 σ290
                                    else
                                      some ((0 : Int32), σ290)
                                  else
                                    if (e4 &&& (31 : Int32)) = (16 : Int32) then
                                      ob (aI σ 0 x0 (v3 + (1 : Int32))) fun e293 => ob (aI σ 0 x0 (v3 + (2 : Int32))) fun e295 => ob (obC σ v1 9) fun _ => cb (fX7_lambda E v1 e293 e295 σ) fun r300 σ299 => ob (aI σ299 0 x0 (v3 + (1 : Int32))) fun e301 => ob (aI σ299 0 x0 (v3 + (2 : Int32))) fun e303 => ob (obC σ299 v2 10) fun _ => cb (fX8_lambda v2 e301 e303 σ299) fun r308 σ307 => if r300 = r308 then
                                        fL_law_J983 E x0 K18 v1 v2 v3 σ307
                                      else
                                        some ((0 : Int32), σ307)
                                    else
                                      if (e4 &&& (31 : Int32)) = (17 : Int32) then
                                        ob (aI σ 0 x0 (v3 + (1 : Int32))) fun e310 => ob (aI σ 0 x0 (v3 + (2 : Int32))) fun e312 => ob (obC σ v1 9) fun _ => cb (fX7_seen v1 e310 e312 σ) fun r317 σ316 => ob (aI σ316 0 x0 (v3 + (1 : Int32))) fun e318 => ob (aI σ316 0 x0 (v3 + (2 : Int32))) fun e320 => ob (obC σ316 v2 10) fun _ => cb (fX8_seen v2 e318 e320 σ316) fun r325 σ324 => if (lg_cmp r317 r325) = 0 then
                                          fL_law_J983 E x0 K18 v1 v2 v3 σ324
                                        else
                                          some ((0 : Int32), σ324)
                                      else
                                        if (e4 &&& (31 : Int32)) = (18 : Int32) then
                                          ob (obC σ v1 9) fun _ => cb (fX7_why v1 σ) fun r330 σ329 => ob (obC σ329 v2 10) fun _ => cb (fX8_why v2 σ329) fun r334 σ333 => if r330 = r334 then
                                            fL_law_J983 E x0 K18 v1 v2 v3 σ333
                                          else
                                            some ((0 : Int32), σ333)
                                        else
                                          if (e4 &&& (31 : Int32)) = (19 : Int32) then
                                            ob (aI σ 0 x0 (v3 + (1 : Int32))) fun e336 => ob (obC σ v1 9) fun _ => cb (fX7_count v1 e336 σ) fun r341 σ340 => ob (aI σ340 0 x0 (v3 + (1 : Int32))) fun e342 => ob (obC σ340 v2 10) fun _ => cb (fX8_count v2 e342 σ340) fun r347 σ346 => if r341 = r347 then
                                              fL_law_J983 E x0 K18 v1 v2 v3 σ346
                                            else
                                              some ((0 : Int32), σ346)
                                          else
                                            fL_law_J983 E x0 K18 v1 v2 v3 σ
def fL_law_L18 (E : hmG) (x0 : Nat)  : Nat → Nat → Nat → Int32 → hmS → Option (Int32 × hmS)
  | 0 => fun _ _ _ _ => none
  | n + 1 => fL_law_B18 E x0  (fL_law_L18 E x0  n)
def fL_law (E : hmG) (x0 : Nat) (σ : hmS) : Option (Int32 × hmS) :=
  nw σ (.inr (9, [.null, .int 0, .null, .int 0, .null, .int 0, .null, .int 0])) fun q1 σ2 => cb (fX7_init E q1 σ2) fun _ σ6 => nw σ6 (.inr (10, [.int 0, .null, .null, .null, .null, .null, .null, .null, .null, .null, .null, .null, .null, .null, .null, .null, .int 0, .null, .null, .null, .null, .null, .null, .int 0, .null, .null, .null, .null, .int 0, .null, .int 0, .int 0, .int 0])) fun q7 σ8 => cb (fX8_init q7 σ8) fun _ σ12 => fL_law_L18 E x0 514 q1 q7 (0 : Int32) σ12
set_option maxHeartbeats 8000000 in
set_option maxRecDepth 100000 in
theorem law_walk {p : Program} {e : Env} {s : State} {m : MethodId} {below : List Frame} {meth : Method} {c : Code} (l : Launch) (E : hmG) {x0 L : Nat} {xs : Nat → Int32} (C0 : lw_At p s m meth c x0 L xs) {σ σ' : hmS} (hE : hmL E = s.heap.size) (hK : hmK E s) (hI : hmI E σ s.heap) (h : fL_law E x0 σ = some ((1 : Int32), σ')) : W p l e room_1 s m #[Value.ref x0] below meth c s.heap [] 0 0 (lw_Z below #[Value.ref x0] s) (entryFrame m ([Value.ref x0] : List Value).toArray 4) := by
  obtain ⟨hx, hb, hr, hml, hown, hts, hX, hbl, hlocks, hgv⟩ := id C0
  have S : CallFix p m c cL_law 4 s #[Value.ref x0] [] RL := ⟨hx, hb, hml, hown, fun w hw => by cases hw⟩
  have hb : c.code = cL_law := hb
  have hL : hmLo E [] := hmLo.nil
  have hl := lv_entry ([.ref x0]) (n := 4) (Nat.le_of_ble_eq_true rfl)
  rw [lg_entry_eq]
  generalize (lg_sl ([.ref x0]) ++ List.replicate (4 - (lg_sl ([.ref x0])).length) Slot.unset).toArray = ls at hl ⊢
  have hl : lv_has ls 4 [(0, .ref x0)] := hl
  have hR1 : room_1.frames = 15 ∧ room_1.cells = 600000 ∧ room_1.slots = 7302250 ∧ room_1.locals = 602 := ⟨rfl, rfl, rfl, rfl⟩
  generalize hH : s.heap = H at hI ⊢
  clear hH
  generalize ([] : List Loc) = locs at hL ⊢
  have hmain := h
  clear h
  have hB18 : ∀ N : Nat, N + 1 ≤ 514 → ∀ (K18 : Nat → Nat → Int32 → hmS → Option (Int32 × hmS)), (∀ (v1 : Nat) (v2 : Nat) (v3 : Int32) (σ : hmS) (H : Heap) (locs : List Loc) (ls : Array Slot), K18 v1 v2 v3 σ = some ((1 : Int32), σ') → hmI E σ H → hmLo E locs → lv_has ls 4 [(0, .ref x0), (1, .ref v1), (2, .ref v2), (3, .int v3)] → W p l e room_1 s m #[Value.ref x0] below meth c H locs (22648 - 44 * N) (484466 - 819 * N) (lw_Z below #[Value.ref x0] s) (F0 m 18 ls [])) → ∀ (v1 : Nat) (v2 : Nat) (v3 : Int32) (σ : hmS) (H : Heap) (locs : List Loc) (ls : Array Slot), fL_law_B18 E x0  K18 v1 v2 v3 σ = some ((1 : Int32), σ') → hmI E σ H → hmLo E locs → lv_has ls 4 [(0, .ref x0), (1, .ref v1), (2, .ref v2), (3, .int v3)] → W p l e room_1 s m #[Value.ref x0] below meth c H locs (22648 - 44 * (N + 1)) (484466 - 819 * (N + 1)) (lw_Z below #[Value.ref x0] s) (F0 m 18 ls []) := by
    intro N hN
    intro K18 hk18
    have hJ983 : ∀ (v1 : Nat) (v2 : Nat) (v3 : Int32) (σ : hmS) (H : Heap) (locs : List Loc) (ls : Array Slot), fL_law_J983 E x0 K18 v1 v2 v3 σ = some ((1 : Int32), σ') → hmI E σ H → hmLo E locs → lv_has ls 4 [(0, .ref x0), (1, .ref v1), (2, .ref v2), (3, .int v3)] → W p l e room_1 s m #[Value.ref x0] below meth c H locs ((22648 - 44 * (N + 1)) + 44) ((484466 - 819 * (N + 1)) + 819) (lw_Z below #[Value.ref x0] s) (F0 m 983 ls []) := by
      intro v1 v2 v3 σ H locs ls h hI hL hl
      unfold fL_law_J983 at h
      refine lv_iinc (v := (v3 + (6 : Int32))) (lv' := [(3, .int (v3 + (6 : Int32))), (0, .ref x0), (1, .ref v1), (2, .ref v2)]) hx hb dL_law_983 hl (k := 3) rfl rfl (by decide) rfl (fun ls hl => ?_)
      refine lv_goto (tgt := 18) hx hb dL_law_986 (by decide) ?_
      refine W.widen (k := (22648 - 44 * N)) (n := (484466 - 819 * N)) (by omega) (by omega) ?_
      exact hk18 _ _ _ _ _ _ _ h hI hL (lv_sub hl [1, 2, 3, 0] rfl)
    have hJ457 : ∀ (v1 : Nat) (v2 : Nat) (v3 : Int32) (w0 : Int32) (w1 : Int32) (w2 : Nat) (w3 : Int32) (σ : hmS) (H : Heap) (locs : List Loc) (ls : Array Slot), fL_law_J457 E x0 K18 v1 v2 v3 w0 w1 w2 w3 σ = some ((1 : Int32), σ') → hmI E σ H → hmLo E locs → lv_has ls 4 [(0, .ref x0), (1, .ref v1), (2, .ref v2), (3, .int v3)] → W p l e room_1 s m #[Value.ref x0] below meth c H locs (22648 - 44 * (N + 1)) (484466 - 819 * (N + 1)) (lw_Z below #[Value.ref x0] s) (F0 m 457 ls [.int w0, .int w1, .ref w2, .int w3]) := by
      intro v1 v2 v3 w0 w1 w2 w3 σ H locs ls h hI hL hl
      unfold fL_law_J457 at h
      replace h := ob_s h
      obtain ⟨_, h2, h⟩ := h
      replace h := cb_s h
      obtain ⟨r4, σ3, h1, h⟩ := h
      refine hm_call (hm_runV (As := [.int w1, .int w0]) (rest := [.int w3]) (ci := 10) S hK hI (obC_s h2) rfl (mX8_method l E h1) (pm_L_38 hK) (pi_X8_method hK) (pl_X8_X8_method hK) ⟨by omega, by omega⟩ rfl hl.1 (Nat.le_of_ble_eq_true rfl) ⟨by omega, by omega⟩ dL_law_457) hL (fun H locs hI hL => ?_)
      refine lv_icmp_eq (tgt := 983) hx hb dL_law_460 (by decide) (fun c5 => ?_) (fun c5 => ?_)
      · replace h := it_p c5 h
        refine W.widen (k := ((22648 - 44 * (N + 1)) + 44)) (n := ((484466 - 819 * (N + 1)) + 819)) (by omega) (by omega) ?_
        exact hJ983 _ _ _ _ _ _ _ h hI hL (lv_sub hl [0, 1, 2, 3] rfl)
      · replace h := it_n c5 h
        refine lv_iconst (v := 0) hx hb dL_law_463 (by decide) ?_
        exact absurd (rt_s h).1 (by decide)
    have hJ435 : ∀ (v1 : Nat) (v2 : Nat) (v3 : Int32) (w0 : Int32) (w1 : Int32) (w2 : Nat) (σ : hmS) (H : Heap) (locs : List Loc) (ls : Array Slot), fL_law_J435 E x0 K18 v1 v2 v3 w0 w1 w2 σ = some ((1 : Int32), σ') → hmI E σ H → hmLo E locs → lv_has ls 4 [(0, .ref x0), (1, .ref v1), (2, .ref v2), (3, .int v3)] → W p l e room_1 s m #[Value.ref x0] below meth c H locs (22648 - 44 * (N + 1)) (484466 - 819 * (N + 1)) (lw_Z below #[Value.ref x0] s) (F0 m 435 ls [.int w0, .int w1, .ref w2]) := by
      intro v1 v2 v3 w0 w1 w2 σ H locs ls h hI hL hl
      unfold fL_law_J435 at h
      replace h := ob_s h
      obtain ⟨_, h2, h⟩ := h
      replace h := cb_s h
      obtain ⟨r4, σ3, h1, h⟩ := h
      refine hm_call (hm_runV (As := [.int w1, .int w0]) (rest := []) (ci := 9) S hK hI (obC_s h2) rfl (mX7_method l E h1) (pm_L_34 hK) (pi_X7_method hK) (pl_X7_X7_method hK) ⟨by omega, by omega⟩ rfl hl.1 (Nat.le_of_ble_eq_true rfl) ⟨by omega, by omega⟩ dL_law_435) hL (fun H locs hI hL => ?_)
      refine lv_aload_n hx hb dL_law_438 rfl (lv_at hl 2 rfl) ?_
      refine lv_aload_n hx hb dL_law_439 rfl (lv_at hl 0 rfl) ?_
      refine lv_iload_n hx hb dL_law_440 rfl (lv_at hl 3 rfl) ?_
      refine lv_iconst (v := 1) hx hb dL_law_441 (by decide) ?_
      refine lv_iadd hx hb dL_law_442 ?_
      replace h := ob_s h
      obtain ⟨e5, h6, h⟩ := h
      refine hm_iald S hK hI h6 dL_law_443 ?_
      refine lv_aload_n hx hb dL_law_444 rfl (lv_at hl 0 rfl) ?_
      refine lv_iload_n hx hb dL_law_445 rfl (lv_at hl 3 rfl) ?_
      refine lv_iconst (v := 2) hx hb dL_law_446 (by decide) ?_
      refine lv_iadd hx hb dL_law_447 ?_
      replace h := ob_s h
      obtain ⟨e7, h8, h⟩ := h
      refine hm_iald S hK hI h8 dL_law_448 ?_
      refine lv_if_eq (tgt := 456) hx hb dL_law_449 (by decide) (fun c9 => ?_) (fun c9 => ?_)
      · replace h := it_p c9 h
        refine lv_iconst (v := 0) hx hb dL_law_456 (by decide) ?_
        exact hJ457 _ _ _ _ _ _ _ _ _ _ _ h hI hL (lv_sub hl [0, 1, 2, 3] rfl)
      · replace h := it_n c9 h
        refine lv_iconst (v := 1) hx hb dL_law_452 (by decide) ?_
        refine lv_goto (tgt := 457) hx hb dL_law_453 (by decide) ?_
        exact hJ457 _ _ _ _ _ _ _ _ _ _ _ h hI hL (lv_sub hl [0, 1, 2, 3] rfl)
    have hJ262 : ∀ (v1 : Nat) (v2 : Nat) (v3 : Int32) (w0 : Int32) (w1 : Int64) (w2 : Int32) (w3 : Int32) (w4 : Nat) (w5 : Int32) (σ : hmS) (H : Heap) (locs : List Loc) (ls : Array Slot), fL_law_J262 E x0 K18 v1 v2 v3 w0 w1 w2 w3 w4 w5 σ = some ((1 : Int32), σ') → hmI E σ H → hmLo E locs → lv_has ls 4 [(0, .ref x0), (1, .ref v1), (2, .ref v2), (3, .int v3)] → W p l e room_1 s m #[Value.ref x0] below meth c H locs (22648 - 44 * (N + 1)) (484466 - 819 * (N + 1)) (lw_Z below #[Value.ref x0] s) (F0 m 262 ls [.int w0, .long w1, .int w2, .int w3, .ref w4, .int w5]) := by
      intro v1 v2 v3 w0 w1 w2 w3 w4 w5 σ H locs ls h hI hL hl
      unfold fL_law_J262 at h
      replace h := ob_s h
      obtain ⟨_, h2, h⟩ := h
      replace h := cb_s h
      obtain ⟨r4, σ3, h1, h⟩ := h
      refine hm_call (hm_runV (As := [.int w3, .int w2, .long w1, .int w0]) (rest := [.int w5]) (ci := 10) S hK hI (obC_s h2) rfl (mX8_field l E h1) (pm_L_24 hK) (pi_X8_field hK) (pl_X8_X8_field hK) ⟨by omega, by omega⟩ rfl hl.1 (Nat.le_of_ble_eq_true rfl) ⟨by omega, by omega⟩ dL_law_262) hL (fun H locs hI hL => ?_)
      refine lv_icmp_eq (tgt := 983) hx hb dL_law_265 (by decide) (fun c5 => ?_) (fun c5 => ?_)
      · replace h := it_p c5 h
        refine W.widen (k := ((22648 - 44 * (N + 1)) + 44)) (n := ((484466 - 819 * (N + 1)) + 819)) (by omega) (by omega) ?_
        exact hJ983 _ _ _ _ _ _ _ h hI hL (lv_sub hl [0, 1, 2, 3] rfl)
      · replace h := it_n c5 h
        refine lv_iconst (v := 0) hx hb dL_law_268 (by decide) ?_
        exact absurd (rt_s h).1 (by decide)
    have hJ215 : ∀ (v1 : Nat) (v2 : Nat) (v3 : Int32) (w0 : Int32) (w1 : Int64) (w2 : Int32) (w3 : Int32) (w4 : Nat) (σ : hmS) (H : Heap) (locs : List Loc) (ls : Array Slot), fL_law_J215 E x0 K18 v1 v2 v3 w0 w1 w2 w3 w4 σ = some ((1 : Int32), σ') → hmI E σ H → hmLo E locs → lv_has ls 4 [(0, .ref x0), (1, .ref v1), (2, .ref v2), (3, .int v3)] → W p l e room_1 s m #[Value.ref x0] below meth c H locs (22648 - 44 * (N + 1)) (484466 - 819 * (N + 1)) (lw_Z below #[Value.ref x0] s) (F0 m 215 ls [.int w0, .long w1, .int w2, .int w3, .ref w4]) := by
      intro v1 v2 v3 w0 w1 w2 w3 w4 σ H locs ls h hI hL hl
      unfold fL_law_J215 at h
      replace h := ob_s h
      obtain ⟨_, h2, h⟩ := h
      replace h := cb_s h
      obtain ⟨r4, σ3, h1, h⟩ := h
      refine hm_call (hm_runV (As := [.int w3, .int w2, .long w1, .int w0]) (rest := []) (ci := 9) S hK hI (obC_s h2) rfl (mX7_field l E h1) (pm_L_20 hK) (pi_X7_field hK) (pl_X7_X7_field hK) ⟨by omega, by omega⟩ rfl hl.1 (Nat.le_of_ble_eq_true rfl) ⟨by omega, by omega⟩ dL_law_215) hL (fun H locs hI hL => ?_)
      refine lv_aload_n hx hb dL_law_218 rfl (lv_at hl 2 rfl) ?_
      refine lv_aload_n hx hb dL_law_219 rfl (lv_at hl 0 rfl) ?_
      refine lv_iload_n hx hb dL_law_220 rfl (lv_at hl 3 rfl) ?_
      refine lv_iconst (v := 1) hx hb dL_law_221 (by decide) ?_
      refine lv_iadd hx hb dL_law_222 ?_
      replace h := ob_s h
      obtain ⟨e5, h6, h⟩ := h
      refine hm_iald S hK hI h6 dL_law_223 ?_
      refine lv_aload_n hx hb dL_law_224 rfl (lv_at hl 0 rfl) ?_
      refine lv_iload_n hx hb dL_law_225 rfl (lv_at hl 3 rfl) ?_
      refine lv_iconst (v := 2) hx hb dL_law_226 (by decide) ?_
      refine lv_iadd hx hb dL_law_227 ?_
      replace h := ob_s h
      obtain ⟨e7, h8, h⟩ := h
      refine hm_iald S hK hI h8 dL_law_228 ?_
      refine lv_aload_n hx hb dL_law_229 rfl (lv_at hl 0 rfl) ?_
      refine lv_iload_n hx hb dL_law_230 rfl (lv_at hl 3 rfl) ?_
      refine lv_iconst (v := 3) hx hb dL_law_231 (by decide) ?_
      refine lv_iadd hx hb dL_law_232 ?_
      replace h := ob_s h
      obtain ⟨e9, h10, h⟩ := h
      refine hm_iald S hK hI h10 dL_law_233 ?_
      refine lv_i2l hx hb dL_law_234 rfl ?_
      refine lv_bipush (v := 32) hx hb dL_law_235 (by decide) ?_
      refine lv_lshl hx hb dL_law_237 rfl ?_
      refine lv_aload_n hx hb dL_law_238 rfl (lv_at hl 0 rfl) ?_
      refine lv_iload_n hx hb dL_law_239 rfl (lv_at hl 3 rfl) ?_
      refine lv_iconst (v := 4) hx hb dL_law_240 (by decide) ?_
      refine lv_iadd hx hb dL_law_241 ?_
      replace h := ob_s h
      obtain ⟨e11, h12, h⟩ := h
      refine hm_iald S hK hI h12 dL_law_242 ?_
      refine lv_i2l hx hb dL_law_243 rfl ?_
      refine lv_ldc2 (v := 4294967295) hx hb S.2.2.2.1 (hm_wd hK 1019 (by decide +kernel) rfl _) dL_law_244 ?_
      refine lv_land hx hb dL_law_247 ?_
      refine lv_lor hx hb dL_law_248 ?_
      refine lv_aload_n hx hb dL_law_249 rfl (lv_at hl 0 rfl) ?_
      refine lv_iload_n hx hb dL_law_250 rfl (lv_at hl 3 rfl) ?_
      refine lv_iconst (v := 5) hx hb dL_law_251 (by decide) ?_
      refine lv_iadd hx hb dL_law_252 ?_
      replace h := ob_s h
      obtain ⟨e13, h14, h⟩ := h
      refine hm_iald S hK hI h14 dL_law_253 ?_
      refine lv_if_eq (tgt := 261) hx hb dL_law_254 (by decide) (fun c15 => ?_) (fun c15 => ?_)
      · replace h := it_p c15 h
        refine lv_iconst (v := 0) hx hb dL_law_261 (by decide) ?_
        exact hJ262 _ _ _ _ _ _ _ _ _ _ _ _ _ h hI hL (lv_sub hl [0, 1, 2, 3] rfl)
      · replace h := it_n c15 h
        refine lv_iconst (v := 1) hx hb dL_law_257 (by decide) ?_
        refine lv_goto (tgt := 262) hx hb dL_law_258 (by decide) ?_
        exact hJ262 _ _ _ _ _ _ _ _ _ _ _ _ _ h hI hL (lv_sub hl [0, 1, 2, 3] rfl)
    intro v1 v2 v3 σ H locs ls h hI hL hl
    unfold fL_law_B18 at h
    refine lv_iload_n hx hb dL_law_18 rfl (lv_at hl 3 rfl) ?_
    refine lv_aload_n hx hb dL_law_19 rfl (lv_at hl 0 rfl) ?_
    replace h := ob_s h
    obtain ⟨n1, h2, h⟩ := h
    refine hm_aN S hK hI h2 dL_law_20 ?_
    refine lv_bipush (v := 6) hx hb dL_law_21 (by decide) ?_
    refine lv_isub hx hb dL_law_23 ?_
    refine lv_icmp_gt (tgt := 989) hx hb dL_law_24 (by decide) (fun c3 => ?_) (fun c3 => ?_)
    · replace h := it_p c3 h
      refine lv_iconst (v := 1) hx hb dL_law_989 (by decide) ?_
      exact hm_lwret hx hb hr hlocks hE hL (by omega) (by omega) dL_law_990
    · replace h := it_n c3 h
      refine lv_aload_n hx hb dL_law_27 rfl (lv_at hl 0 rfl) ?_
      refine lv_iload_n hx hb dL_law_28 rfl (lv_at hl 3 rfl) ?_
      replace h := ob_s h
      obtain ⟨e4, h5, h⟩ := h
      refine hm_iald S hK hI h5 dL_law_29 ?_
      refine lv_bipush (v := 31) hx hb dL_law_30 (by decide) ?_
      refine lv_iand hx hb dL_law_32 ?_
      by_cases c6_0 : (e4 &&& (31 : Int32)) = (0 : Int32)
      · replace h := it_p c6_0 h
        refine hm_tableIn (k := 0) (tgt := 128) hx hb dL_law_33 c6_0 (by decide) (by decide) rfl (by decide) ?_
        refine lv_aload_n hx hb dL_law_128 rfl (lv_at hl 1 rfl) ?_
        refine lv_aload_n hx hb dL_law_129 rfl (lv_at hl 0 rfl) ?_
        refine lv_iload_n hx hb dL_law_130 rfl (lv_at hl 3 rfl) ?_
        refine lv_iconst (v := 1) hx hb dL_law_131 (by decide) ?_
        refine lv_iadd hx hb dL_law_132 ?_
        replace h := ob_s h
        obtain ⟨e7, h8, h⟩ := h
        refine hm_iald S hK hI h8 dL_law_133 ?_
        refine lv_aload_n hx hb dL_law_134 rfl (lv_at hl 0 rfl) ?_
        refine lv_iload_n hx hb dL_law_135 rfl (lv_at hl 3 rfl) ?_
        refine lv_iconst (v := 2) hx hb dL_law_136 (by decide) ?_
        refine lv_iadd hx hb dL_law_137 ?_
        replace h := ob_s h
        obtain ⟨e9, h10, h⟩ := h
        refine hm_iald S hK hI h10 dL_law_138 ?_
        refine lv_aload_n hx hb dL_law_139 rfl (lv_at hl 0 rfl) ?_
        refine lv_iload_n hx hb dL_law_140 rfl (lv_at hl 3 rfl) ?_
        refine lv_iconst (v := 3) hx hb dL_law_141 (by decide) ?_
        refine lv_iadd hx hb dL_law_142 ?_
        replace h := ob_s h
        obtain ⟨e11, h12, h⟩ := h
        refine hm_iald S hK hI h12 dL_law_143 ?_
        replace h := ob_s h
        obtain ⟨_, h14, h⟩ := h
        replace h := cb_s h
        obtain ⟨r16, σ15, h13, h⟩ := h
        refine hm_call (hm_runV (As := [.int e7, .int e9, .int e11]) (rest := []) (ci := 9) S hK hI (obC_s h14) rfl (mX7_type l E h13) (pm_L_13 hK) (pi_X7_type hK) (pl_X7_X7_type hK) ⟨by omega, by omega⟩ rfl hl.1 (Nat.le_of_ble_eq_true rfl) ⟨by omega, by omega⟩ dL_law_144) hL (fun H locs hI hL => ?_)
        refine lv_aload_n hx hb dL_law_147 rfl (lv_at hl 2 rfl) ?_
        refine lv_aload_n hx hb dL_law_148 rfl (lv_at hl 0 rfl) ?_
        refine lv_iload_n hx hb dL_law_149 rfl (lv_at hl 3 rfl) ?_
        refine lv_iconst (v := 1) hx hb dL_law_150 (by decide) ?_
        refine lv_iadd hx hb dL_law_151 ?_
        replace h := ob_s h
        obtain ⟨e17, h18, h⟩ := h
        refine hm_iald S hK hI h18 dL_law_152 ?_
        refine lv_aload_n hx hb dL_law_153 rfl (lv_at hl 0 rfl) ?_
        refine lv_iload_n hx hb dL_law_154 rfl (lv_at hl 3 rfl) ?_
        refine lv_iconst (v := 2) hx hb dL_law_155 (by decide) ?_
        refine lv_iadd hx hb dL_law_156 ?_
        replace h := ob_s h
        obtain ⟨e19, h20, h⟩ := h
        refine hm_iald S hK hI h20 dL_law_157 ?_
        refine lv_aload_n hx hb dL_law_158 rfl (lv_at hl 0 rfl) ?_
        refine lv_iload_n hx hb dL_law_159 rfl (lv_at hl 3 rfl) ?_
        refine lv_iconst (v := 3) hx hb dL_law_160 (by decide) ?_
        refine lv_iadd hx hb dL_law_161 ?_
        replace h := ob_s h
        obtain ⟨e21, h22, h⟩ := h
        refine hm_iald S hK hI h22 dL_law_162 ?_
        replace h := ob_s h
        obtain ⟨_, h24, h⟩ := h
        replace h := cb_s h
        obtain ⟨r26, σ25, h23, h⟩ := h
        refine hm_call (hm_runV (As := [.int e17, .int e19, .int e21]) (rest := [.int r16]) (ci := 10) S hK hI (obC_s h24) rfl (mX8_type l E h23) (pm_L_17 hK) (pi_X8_type hK) (pl_X8_X8_type hK) ⟨by omega, by omega⟩ rfl hl.1 (Nat.le_of_ble_eq_true rfl) ⟨by omega, by omega⟩ dL_law_163) hL (fun H locs hI hL => ?_)
        refine lv_icmp_eq (tgt := 983) hx hb dL_law_166 (by decide) (fun c27 => ?_) (fun c27 => ?_)
        · replace h := it_p c27 h
          refine W.widen (k := ((22648 - 44 * (N + 1)) + 44)) (n := ((484466 - 819 * (N + 1)) + 819)) (by omega) (by omega) ?_
          exact hJ983 _ _ _ _ _ _ _ h hI hL (lv_sub hl [0, 1, 2, 3] rfl)
        · replace h := it_n c27 h
          refine lv_iconst (v := 0) hx hb dL_law_169 (by decide) ?_
          exact absurd (rt_s h).1 (by decide)
      replace h := it_n c6_0 h
      by_cases c6_1 : (e4 &&& (31 : Int32)) = (1 : Int32)
      · replace h := it_p c6_1 h
        refine hm_tableIn (k := 1) (tgt := 171) hx hb dL_law_33 c6_1 (by decide) (by decide) rfl (by decide) ?_
        refine lv_aload_n hx hb dL_law_171 rfl (lv_at hl 1 rfl) ?_
        refine lv_aload_n hx hb dL_law_172 rfl (lv_at hl 0 rfl) ?_
        refine lv_iload_n hx hb dL_law_173 rfl (lv_at hl 3 rfl) ?_
        refine lv_iconst (v := 1) hx hb dL_law_174 (by decide) ?_
        refine lv_iadd hx hb dL_law_175 ?_
        replace h := ob_s h
        obtain ⟨e28, h29, h⟩ := h
        refine hm_iald S hK hI h29 dL_law_176 ?_
        refine lv_aload_n hx hb dL_law_177 rfl (lv_at hl 0 rfl) ?_
        refine lv_iload_n hx hb dL_law_178 rfl (lv_at hl 3 rfl) ?_
        refine lv_iconst (v := 2) hx hb dL_law_179 (by decide) ?_
        refine lv_iadd hx hb dL_law_180 ?_
        replace h := ob_s h
        obtain ⟨e30, h31, h⟩ := h
        refine hm_iald S hK hI h31 dL_law_181 ?_
        refine lv_aload_n hx hb dL_law_182 rfl (lv_at hl 0 rfl) ?_
        refine lv_iload_n hx hb dL_law_183 rfl (lv_at hl 3 rfl) ?_
        refine lv_iconst (v := 3) hx hb dL_law_184 (by decide) ?_
        refine lv_iadd hx hb dL_law_185 ?_
        replace h := ob_s h
        obtain ⟨e32, h33, h⟩ := h
        refine hm_iald S hK hI h33 dL_law_186 ?_
        refine lv_i2l hx hb dL_law_187 rfl ?_
        refine lv_bipush (v := 32) hx hb dL_law_188 (by decide) ?_
        refine lv_lshl hx hb dL_law_190 rfl ?_
        refine lv_aload_n hx hb dL_law_191 rfl (lv_at hl 0 rfl) ?_
        refine lv_iload_n hx hb dL_law_192 rfl (lv_at hl 3 rfl) ?_
        refine lv_iconst (v := 4) hx hb dL_law_193 (by decide) ?_
        refine lv_iadd hx hb dL_law_194 ?_
        replace h := ob_s h
        obtain ⟨e34, h35, h⟩ := h
        refine hm_iald S hK hI h35 dL_law_195 ?_
        refine lv_i2l hx hb dL_law_196 rfl ?_
        refine lv_ldc2 (v := 4294967295) hx hb S.2.2.2.1 (hm_wd hK 1019 (by decide +kernel) rfl _) dL_law_197 ?_
        refine lv_land hx hb dL_law_200 ?_
        refine lv_lor hx hb dL_law_201 ?_
        refine lv_aload_n hx hb dL_law_202 rfl (lv_at hl 0 rfl) ?_
        refine lv_iload_n hx hb dL_law_203 rfl (lv_at hl 3 rfl) ?_
        refine lv_iconst (v := 5) hx hb dL_law_204 (by decide) ?_
        refine lv_iadd hx hb dL_law_205 ?_
        replace h := ob_s h
        obtain ⟨e36, h37, h⟩ := h
        refine hm_iald S hK hI h37 dL_law_206 ?_
        refine lv_if_eq (tgt := 214) hx hb dL_law_207 (by decide) (fun c38 => ?_) (fun c38 => ?_)
        · replace h := it_p c38 h
          refine lv_iconst (v := 0) hx hb dL_law_214 (by decide) ?_
          exact hJ215 _ _ _ _ _ _ _ _ _ _ _ _ h hI hL (lv_sub hl [0, 1, 2, 3] rfl)
        · replace h := it_n c38 h
          refine lv_iconst (v := 1) hx hb dL_law_210 (by decide) ?_
          refine lv_goto (tgt := 215) hx hb dL_law_211 (by decide) ?_
          exact hJ215 _ _ _ _ _ _ _ _ _ _ _ _ h hI hL (lv_sub hl [0, 1, 2, 3] rfl)
      replace h := it_n c6_1 h
      by_cases c6_2 : (e4 &&& (31 : Int32)) = (2 : Int32)
      · replace h := it_p c6_2 h
        refine hm_tableIn (k := 2) (tgt := 270) hx hb dL_law_33 c6_2 (by decide) (by decide) rfl (by decide) ?_
        refine lv_aload_n hx hb dL_law_270 rfl (lv_at hl 1 rfl) ?_
        refine lv_aload_n hx hb dL_law_271 rfl (lv_at hl 0 rfl) ?_
        refine lv_iload_n hx hb dL_law_272 rfl (lv_at hl 3 rfl) ?_
        refine lv_iconst (v := 1) hx hb dL_law_273 (by decide) ?_
        refine lv_iadd hx hb dL_law_274 ?_
        replace h := ob_s h
        obtain ⟨e39, h40, h⟩ := h
        refine hm_iald S hK hI h40 dL_law_275 ?_
        refine lv_aload_n hx hb dL_law_276 rfl (lv_at hl 0 rfl) ?_
        refine lv_iload_n hx hb dL_law_277 rfl (lv_at hl 3 rfl) ?_
        refine lv_iconst (v := 2) hx hb dL_law_278 (by decide) ?_
        refine lv_iadd hx hb dL_law_279 ?_
        replace h := ob_s h
        obtain ⟨e41, h42, h⟩ := h
        refine hm_iald S hK hI h42 dL_law_280 ?_
        refine lv_aload_n hx hb dL_law_281 rfl (lv_at hl 0 rfl) ?_
        refine lv_iload_n hx hb dL_law_282 rfl (lv_at hl 3 rfl) ?_
        refine lv_iconst (v := 3) hx hb dL_law_283 (by decide) ?_
        refine lv_iadd hx hb dL_law_284 ?_
        replace h := ob_s h
        obtain ⟨e43, h44, h⟩ := h
        refine hm_iald S hK hI h44 dL_law_285 ?_
        refine lv_i2l hx hb dL_law_286 rfl ?_
        refine lv_bipush (v := 32) hx hb dL_law_287 (by decide) ?_
        refine lv_lshl hx hb dL_law_289 rfl ?_
        refine lv_aload_n hx hb dL_law_290 rfl (lv_at hl 0 rfl) ?_
        refine lv_iload_n hx hb dL_law_291 rfl (lv_at hl 3 rfl) ?_
        refine lv_iconst (v := 4) hx hb dL_law_292 (by decide) ?_
        refine lv_iadd hx hb dL_law_293 ?_
        replace h := ob_s h
        obtain ⟨e45, h46, h⟩ := h
        refine hm_iald S hK hI h46 dL_law_294 ?_
        refine lv_i2l hx hb dL_law_295 rfl ?_
        refine lv_ldc2 (v := 4294967295) hx hb S.2.2.2.1 (hm_wd hK 1019 (by decide +kernel) rfl _) dL_law_296 ?_
        refine lv_land hx hb dL_law_299 ?_
        refine lv_lor hx hb dL_law_300 ?_
        replace h := ob_s h
        obtain ⟨_, h48, h⟩ := h
        replace h := cb_s h
        obtain ⟨r50, σ49, h47, h⟩ := h
        refine hm_call (hm_runV (As := [.int e39, .int e41, .long (((e43).toInt64 <<< (((32 : Int32)).toInt64 &&& 63)) ||| ((e45).toInt64 &&& (4294967295 : Int64)))]) (rest := []) (ci := 9) S hK hI (obC_s h48) rfl (mX7_local l E h47) (pm_L_25 hK) (pi_X7_local hK) (pl_X7_X7_local hK) ⟨by omega, by omega⟩ rfl hl.1 (Nat.le_of_ble_eq_true rfl) ⟨by omega, by omega⟩ dL_law_301) hL (fun H locs hI hL => ?_)
        refine lv_aload_n hx hb dL_law_304 rfl (lv_at hl 2 rfl) ?_
        refine lv_aload_n hx hb dL_law_305 rfl (lv_at hl 0 rfl) ?_
        refine lv_iload_n hx hb dL_law_306 rfl (lv_at hl 3 rfl) ?_
        refine lv_iconst (v := 1) hx hb dL_law_307 (by decide) ?_
        refine lv_iadd hx hb dL_law_308 ?_
        replace h := ob_s h
        obtain ⟨e51, h52, h⟩ := h
        refine hm_iald S hK hI h52 dL_law_309 ?_
        refine lv_aload_n hx hb dL_law_310 rfl (lv_at hl 0 rfl) ?_
        refine lv_iload_n hx hb dL_law_311 rfl (lv_at hl 3 rfl) ?_
        refine lv_iconst (v := 2) hx hb dL_law_312 (by decide) ?_
        refine lv_iadd hx hb dL_law_313 ?_
        replace h := ob_s h
        obtain ⟨e53, h54, h⟩ := h
        refine hm_iald S hK hI h54 dL_law_314 ?_
        refine lv_aload_n hx hb dL_law_315 rfl (lv_at hl 0 rfl) ?_
        refine lv_iload_n hx hb dL_law_316 rfl (lv_at hl 3 rfl) ?_
        refine lv_iconst (v := 3) hx hb dL_law_317 (by decide) ?_
        refine lv_iadd hx hb dL_law_318 ?_
        replace h := ob_s h
        obtain ⟨e55, h56, h⟩ := h
        refine hm_iald S hK hI h56 dL_law_319 ?_
        refine lv_i2l hx hb dL_law_320 rfl ?_
        refine lv_bipush (v := 32) hx hb dL_law_321 (by decide) ?_
        refine lv_lshl hx hb dL_law_323 rfl ?_
        refine lv_aload_n hx hb dL_law_324 rfl (lv_at hl 0 rfl) ?_
        refine lv_iload_n hx hb dL_law_325 rfl (lv_at hl 3 rfl) ?_
        refine lv_iconst (v := 4) hx hb dL_law_326 (by decide) ?_
        refine lv_iadd hx hb dL_law_327 ?_
        replace h := ob_s h
        obtain ⟨e57, h58, h⟩ := h
        refine hm_iald S hK hI h58 dL_law_328 ?_
        refine lv_i2l hx hb dL_law_329 rfl ?_
        refine lv_ldc2 (v := 4294967295) hx hb S.2.2.2.1 (hm_wd hK 1019 (by decide +kernel) rfl _) dL_law_330 ?_
        refine lv_land hx hb dL_law_333 ?_
        refine lv_lor hx hb dL_law_334 ?_
        replace h := ob_s h
        obtain ⟨_, h60, h⟩ := h
        replace h := cb_s h
        obtain ⟨r62, σ61, h59, h⟩ := h
        refine hm_call (hm_runV (As := [.int e51, .int e53, .long (((e55).toInt64 <<< (((32 : Int32)).toInt64 &&& 63)) ||| ((e57).toInt64 &&& (4294967295 : Int64)))]) (rest := [.int r50]) (ci := 10) S hK hI (obC_s h60) rfl (mX8_local l E h59) (pm_L_29 hK) (pi_X8_local hK) (pl_X8_X8_local hK) ⟨by omega, by omega⟩ rfl hl.1 (Nat.le_of_ble_eq_true rfl) ⟨by omega, by omega⟩ dL_law_335) hL (fun H locs hI hL => ?_)
        refine lv_icmp_eq (tgt := 983) hx hb dL_law_338 (by decide) (fun c63 => ?_) (fun c63 => ?_)
        · replace h := it_p c63 h
          refine W.widen (k := ((22648 - 44 * (N + 1)) + 44)) (n := ((484466 - 819 * (N + 1)) + 819)) (by omega) (by omega) ?_
          exact hJ983 _ _ _ _ _ _ _ h hI hL (lv_sub hl [0, 1, 2, 3] rfl)
        · replace h := it_n c63 h
          refine lv_iconst (v := 0) hx hb dL_law_341 (by decide) ?_
          exact absurd (rt_s h).1 (by decide)
      replace h := it_n c6_2 h
      by_cases c6_3 : (e4 &&& (31 : Int32)) = (3 : Int32)
      · replace h := it_p c6_3 h
        refine hm_tableIn (k := 3) (tgt := 343) hx hb dL_law_33 c6_3 (by decide) (by decide) rfl (by decide) ?_
        refine lv_aload_n hx hb dL_law_343 rfl (lv_at hl 1 rfl) ?_
        refine lv_aload_n hx hb dL_law_344 rfl (lv_at hl 0 rfl) ?_
        refine lv_iload_n hx hb dL_law_345 rfl (lv_at hl 3 rfl) ?_
        refine lv_iconst (v := 1) hx hb dL_law_346 (by decide) ?_
        refine lv_iadd hx hb dL_law_347 ?_
        replace h := ob_s h
        obtain ⟨e64, h65, h⟩ := h
        refine hm_iald S hK hI h65 dL_law_348 ?_
        refine lv_aload_n hx hb dL_law_349 rfl (lv_at hl 0 rfl) ?_
        refine lv_iload_n hx hb dL_law_350 rfl (lv_at hl 3 rfl) ?_
        refine lv_iconst (v := 2) hx hb dL_law_351 (by decide) ?_
        refine lv_iadd hx hb dL_law_352 ?_
        replace h := ob_s h
        obtain ⟨e66, h67, h⟩ := h
        refine hm_iald S hK hI h67 dL_law_353 ?_
        refine lv_aload_n hx hb dL_law_354 rfl (lv_at hl 0 rfl) ?_
        refine lv_iload_n hx hb dL_law_355 rfl (lv_at hl 3 rfl) ?_
        refine lv_iconst (v := 3) hx hb dL_law_356 (by decide) ?_
        refine lv_iadd hx hb dL_law_357 ?_
        replace h := ob_s h
        obtain ⟨e68, h69, h⟩ := h
        refine hm_iald S hK hI h69 dL_law_358 ?_
        refine lv_i2l hx hb dL_law_359 rfl ?_
        refine lv_bipush (v := 32) hx hb dL_law_360 (by decide) ?_
        refine lv_lshl hx hb dL_law_362 rfl ?_
        refine lv_aload_n hx hb dL_law_363 rfl (lv_at hl 0 rfl) ?_
        refine lv_iload_n hx hb dL_law_364 rfl (lv_at hl 3 rfl) ?_
        refine lv_iconst (v := 4) hx hb dL_law_365 (by decide) ?_
        refine lv_iadd hx hb dL_law_366 ?_
        replace h := ob_s h
        obtain ⟨e70, h71, h⟩ := h
        refine hm_iald S hK hI h71 dL_law_367 ?_
        refine lv_i2l hx hb dL_law_368 rfl ?_
        refine lv_ldc2 (v := 4294967295) hx hb S.2.2.2.1 (hm_wd hK 1019 (by decide +kernel) rfl _) dL_law_369 ?_
        refine lv_land hx hb dL_law_372 ?_
        refine lv_lor hx hb dL_law_373 ?_
        replace h := ob_s h
        obtain ⟨_, h73, h⟩ := h
        replace h := cb_s h
        obtain ⟨r75, σ74, h72, h⟩ := h
        refine hm_call (hm_runV (As := [.int e64, .int e66, .long (((e68).toInt64 <<< (((32 : Int32)).toInt64 &&& 63)) ||| ((e70).toInt64 &&& (4294967295 : Int64)))]) (rest := []) (ci := 9) S hK hI (obC_s h73) rfl (mX7_assign l E h72) (pm_L_30 hK) (pi_X7_assign hK) (pl_X7_X7_assign hK) ⟨by omega, by omega⟩ rfl hl.1 (Nat.le_of_ble_eq_true rfl) ⟨by omega, by omega⟩ dL_law_374) hL (fun H locs hI hL => ?_)
        refine lv_aload_n hx hb dL_law_377 rfl (lv_at hl 2 rfl) ?_
        refine lv_aload_n hx hb dL_law_378 rfl (lv_at hl 0 rfl) ?_
        refine lv_iload_n hx hb dL_law_379 rfl (lv_at hl 3 rfl) ?_
        refine lv_iconst (v := 1) hx hb dL_law_380 (by decide) ?_
        refine lv_iadd hx hb dL_law_381 ?_
        replace h := ob_s h
        obtain ⟨e76, h77, h⟩ := h
        refine hm_iald S hK hI h77 dL_law_382 ?_
        refine lv_aload_n hx hb dL_law_383 rfl (lv_at hl 0 rfl) ?_
        refine lv_iload_n hx hb dL_law_384 rfl (lv_at hl 3 rfl) ?_
        refine lv_iconst (v := 2) hx hb dL_law_385 (by decide) ?_
        refine lv_iadd hx hb dL_law_386 ?_
        replace h := ob_s h
        obtain ⟨e78, h79, h⟩ := h
        refine hm_iald S hK hI h79 dL_law_387 ?_
        refine lv_aload_n hx hb dL_law_388 rfl (lv_at hl 0 rfl) ?_
        refine lv_iload_n hx hb dL_law_389 rfl (lv_at hl 3 rfl) ?_
        refine lv_iconst (v := 3) hx hb dL_law_390 (by decide) ?_
        refine lv_iadd hx hb dL_law_391 ?_
        replace h := ob_s h
        obtain ⟨e80, h81, h⟩ := h
        refine hm_iald S hK hI h81 dL_law_392 ?_
        refine lv_i2l hx hb dL_law_393 rfl ?_
        refine lv_bipush (v := 32) hx hb dL_law_394 (by decide) ?_
        refine lv_lshl hx hb dL_law_396 rfl ?_
        refine lv_aload_n hx hb dL_law_397 rfl (lv_at hl 0 rfl) ?_
        refine lv_iload_n hx hb dL_law_398 rfl (lv_at hl 3 rfl) ?_
        refine lv_iconst (v := 4) hx hb dL_law_399 (by decide) ?_
        refine lv_iadd hx hb dL_law_400 ?_
        replace h := ob_s h
        obtain ⟨e82, h83, h⟩ := h
        refine hm_iald S hK hI h83 dL_law_401 ?_
        refine lv_i2l hx hb dL_law_402 rfl ?_
        refine lv_ldc2 (v := 4294967295) hx hb S.2.2.2.1 (hm_wd hK 1019 (by decide +kernel) rfl _) dL_law_403 ?_
        refine lv_land hx hb dL_law_406 ?_
        refine lv_lor hx hb dL_law_407 ?_
        replace h := ob_s h
        obtain ⟨_, h85, h⟩ := h
        replace h := cb_s h
        obtain ⟨r87, σ86, h84, h⟩ := h
        refine hm_call (hm_runV (As := [.int e76, .int e78, .long (((e80).toInt64 <<< (((32 : Int32)).toInt64 &&& 63)) ||| ((e82).toInt64 &&& (4294967295 : Int64)))]) (rest := [.int r75]) (ci := 10) S hK hI (obC_s h85) rfl (mX8_assign l E h84) (pm_L_33 hK) (pi_X8_assign hK) (pl_X8_X8_assign hK) ⟨by omega, by omega⟩ rfl hl.1 (Nat.le_of_ble_eq_true rfl) ⟨by omega, by omega⟩ dL_law_408) hL (fun H locs hI hL => ?_)
        refine lv_icmp_eq (tgt := 983) hx hb dL_law_411 (by decide) (fun c88 => ?_) (fun c88 => ?_)
        · replace h := it_p c88 h
          refine W.widen (k := ((22648 - 44 * (N + 1)) + 44)) (n := ((484466 - 819 * (N + 1)) + 819)) (by omega) (by omega) ?_
          exact hJ983 _ _ _ _ _ _ _ h hI hL (lv_sub hl [0, 1, 2, 3] rfl)
        · replace h := it_n c88 h
          refine lv_iconst (v := 0) hx hb dL_law_414 (by decide) ?_
          exact absurd (rt_s h).1 (by decide)
      replace h := it_n c6_3 h
      by_cases c6_4 : (e4 &&& (31 : Int32)) = (4 : Int32)
      · replace h := it_p c6_4 h
        refine hm_tableIn (k := 4) (tgt := 416) hx hb dL_law_33 c6_4 (by decide) (by decide) rfl (by decide) ?_
        refine lv_aload_n hx hb dL_law_416 rfl (lv_at hl 1 rfl) ?_
        refine lv_aload_n hx hb dL_law_417 rfl (lv_at hl 0 rfl) ?_
        refine lv_iload_n hx hb dL_law_418 rfl (lv_at hl 3 rfl) ?_
        refine lv_iconst (v := 1) hx hb dL_law_419 (by decide) ?_
        refine lv_iadd hx hb dL_law_420 ?_
        replace h := ob_s h
        obtain ⟨e89, h90, h⟩ := h
        refine hm_iald S hK hI h90 dL_law_421 ?_
        refine lv_aload_n hx hb dL_law_422 rfl (lv_at hl 0 rfl) ?_
        refine lv_iload_n hx hb dL_law_423 rfl (lv_at hl 3 rfl) ?_
        refine lv_iconst (v := 2) hx hb dL_law_424 (by decide) ?_
        refine lv_iadd hx hb dL_law_425 ?_
        replace h := ob_s h
        obtain ⟨e91, h92, h⟩ := h
        refine hm_iald S hK hI h92 dL_law_426 ?_
        refine lv_if_eq (tgt := 434) hx hb dL_law_427 (by decide) (fun c93 => ?_) (fun c93 => ?_)
        · replace h := it_p c93 h
          refine lv_iconst (v := 0) hx hb dL_law_434 (by decide) ?_
          exact hJ435 _ _ _ _ _ _ _ _ _ _ h hI hL (lv_sub hl [0, 1, 2, 3] rfl)
        · replace h := it_n c93 h
          refine lv_iconst (v := 1) hx hb dL_law_430 (by decide) ?_
          refine lv_goto (tgt := 435) hx hb dL_law_431 (by decide) ?_
          exact hJ435 _ _ _ _ _ _ _ _ _ _ h hI hL (lv_sub hl [0, 1, 2, 3] rfl)
      replace h := it_n c6_4 h
      by_cases c6_5 : (e4 &&& (31 : Int32)) = (5 : Int32)
      · replace h := it_p c6_5 h
        refine hm_tableIn (k := 5) (tgt := 465) hx hb dL_law_33 c6_5 (by decide) (by decide) rfl (by decide) ?_
        refine lv_aload_n hx hb dL_law_465 rfl (lv_at hl 1 rfl) ?_
        refine lv_aload_n hx hb dL_law_466 rfl (lv_at hl 0 rfl) ?_
        refine lv_iload_n hx hb dL_law_467 rfl (lv_at hl 3 rfl) ?_
        refine lv_iconst (v := 1) hx hb dL_law_468 (by decide) ?_
        refine lv_iadd hx hb dL_law_469 ?_
        replace h := ob_s h
        obtain ⟨e94, h95, h⟩ := h
        refine hm_iald S hK hI h95 dL_law_470 ?_
        refine lv_aload_n hx hb dL_law_471 rfl (lv_at hl 0 rfl) ?_
        refine lv_iload_n hx hb dL_law_472 rfl (lv_at hl 3 rfl) ?_
        refine lv_iconst (v := 2) hx hb dL_law_473 (by decide) ?_
        refine lv_iadd hx hb dL_law_474 ?_
        replace h := ob_s h
        obtain ⟨e96, h97, h⟩ := h
        refine hm_iald S hK hI h97 dL_law_475 ?_
        replace h := ob_s h
        obtain ⟨_, h99, h⟩ := h
        replace h := cb_s h
        obtain ⟨r101, σ100, h98, h⟩ := h
        refine hm_call (hm_runV (As := [.int e94, .int e96]) (rest := []) (ci := 9) S hK hI (obC_s h99) rfl (mX7_parent l E h98) (pm_L_39 hK) (pi_X7_parent hK) (pl_X7_X7_parent hK) ⟨by omega, by omega⟩ rfl hl.1 (Nat.le_of_ble_eq_true rfl) ⟨by omega, by omega⟩ dL_law_476) hL (fun H locs hI hL => ?_)
        refine lv_aload_n hx hb dL_law_479 rfl (lv_at hl 2 rfl) ?_
        refine lv_aload_n hx hb dL_law_480 rfl (lv_at hl 0 rfl) ?_
        refine lv_iload_n hx hb dL_law_481 rfl (lv_at hl 3 rfl) ?_
        refine lv_iconst (v := 1) hx hb dL_law_482 (by decide) ?_
        refine lv_iadd hx hb dL_law_483 ?_
        replace h := ob_s h
        obtain ⟨e102, h103, h⟩ := h
        refine hm_iald S hK hI h103 dL_law_484 ?_
        refine lv_aload_n hx hb dL_law_485 rfl (lv_at hl 0 rfl) ?_
        refine lv_iload_n hx hb dL_law_486 rfl (lv_at hl 3 rfl) ?_
        refine lv_iconst (v := 2) hx hb dL_law_487 (by decide) ?_
        refine lv_iadd hx hb dL_law_488 ?_
        replace h := ob_s h
        obtain ⟨e104, h105, h⟩ := h
        refine hm_iald S hK hI h105 dL_law_489 ?_
        replace h := ob_s h
        obtain ⟨_, h107, h⟩ := h
        replace h := cb_s h
        obtain ⟨r109, σ108, h106, h⟩ := h
        refine hm_call (hm_runV (As := [.int e102, .int e104]) (rest := [.int r101]) (ci := 10) S hK hI (obC_s h107) rfl (mX8_parent l E h106) (pm_L_43 hK) (pi_X8_parent hK) (pl_X8_X8_parent hK) ⟨by omega, by omega⟩ rfl hl.1 (Nat.le_of_ble_eq_true rfl) ⟨by omega, by omega⟩ dL_law_490) hL (fun H locs hI hL => ?_)
        refine lv_icmp_eq (tgt := 983) hx hb dL_law_493 (by decide) (fun c110 => ?_) (fun c110 => ?_)
        · replace h := it_p c110 h
          refine W.widen (k := ((22648 - 44 * (N + 1)) + 44)) (n := ((484466 - 819 * (N + 1)) + 819)) (by omega) (by omega) ?_
          exact hJ983 _ _ _ _ _ _ _ h hI hL (lv_sub hl [0, 1, 2, 3] rfl)
        · replace h := it_n c110 h
          refine lv_iconst (v := 0) hx hb dL_law_496 (by decide) ?_
          exact absurd (rt_s h).1 (by decide)
      replace h := it_n c6_5 h
      by_cases c6_6 : (e4 &&& (31 : Int32)) = (6 : Int32)
      · replace h := it_p c6_6 h
        refine hm_tableIn (k := 6) (tgt := 498) hx hb dL_law_33 c6_6 (by decide) (by decide) rfl (by decide) ?_
        refine lv_aload_n hx hb dL_law_498 rfl (lv_at hl 1 rfl) ?_
        refine lv_aload_n hx hb dL_law_499 rfl (lv_at hl 0 rfl) ?_
        refine lv_iload_n hx hb dL_law_500 rfl (lv_at hl 3 rfl) ?_
        refine lv_iconst (v := 1) hx hb dL_law_501 (by decide) ?_
        refine lv_iadd hx hb dL_law_502 ?_
        replace h := ob_s h
        obtain ⟨e111, h112, h⟩ := h
        refine hm_iald S hK hI h112 dL_law_503 ?_
        refine lv_aload_n hx hb dL_law_504 rfl (lv_at hl 0 rfl) ?_
        refine lv_iload_n hx hb dL_law_505 rfl (lv_at hl 3 rfl) ?_
        refine lv_iconst (v := 2) hx hb dL_law_506 (by decide) ?_
        refine lv_iadd hx hb dL_law_507 ?_
        replace h := ob_s h
        obtain ⟨e113, h114, h⟩ := h
        refine hm_iald S hK hI h114 dL_law_508 ?_
        replace h := ob_s h
        obtain ⟨_, h116, h⟩ := h
        replace h := cb_s h
        obtain ⟨r118, σ117, h115, h⟩ := h
        refine hm_call (hm_runV (As := [.int e111, .int e113]) (rest := []) (ci := 9) S hK hI (obC_s h116) rfl (mX7_name l E h115) (pm_L_44 hK) (pi_X7_name hK) (pl_X7_X7_name hK) ⟨by omega, by omega⟩ rfl hl.1 (Nat.le_of_ble_eq_true rfl) ⟨by omega, by omega⟩ dL_law_509) hL (fun H locs hI hL => ?_)
        refine lv_aload_n hx hb dL_law_512 rfl (lv_at hl 2 rfl) ?_
        refine lv_aload_n hx hb dL_law_513 rfl (lv_at hl 0 rfl) ?_
        refine lv_iload_n hx hb dL_law_514 rfl (lv_at hl 3 rfl) ?_
        refine lv_iconst (v := 1) hx hb dL_law_515 (by decide) ?_
        refine lv_iadd hx hb dL_law_516 ?_
        replace h := ob_s h
        obtain ⟨e119, h120, h⟩ := h
        refine hm_iald S hK hI h120 dL_law_517 ?_
        refine lv_aload_n hx hb dL_law_518 rfl (lv_at hl 0 rfl) ?_
        refine lv_iload_n hx hb dL_law_519 rfl (lv_at hl 3 rfl) ?_
        refine lv_iconst (v := 2) hx hb dL_law_520 (by decide) ?_
        refine lv_iadd hx hb dL_law_521 ?_
        replace h := ob_s h
        obtain ⟨e121, h122, h⟩ := h
        refine hm_iald S hK hI h122 dL_law_522 ?_
        replace h := ob_s h
        obtain ⟨_, h124, h⟩ := h
        replace h := cb_s h
        obtain ⟨r126, σ125, h123, h⟩ := h
        refine hm_call (hm_runV (As := [.int e119, .int e121]) (rest := [.int r118]) (ci := 10) S hK hI (obC_s h124) rfl (mX8_name l E h123) (pm_L_47 hK) (pi_X8_name hK) (pl_X8_X8_name hK) ⟨by omega, by omega⟩ rfl hl.1 (Nat.le_of_ble_eq_true rfl) ⟨by omega, by omega⟩ dL_law_523) hL (fun H locs hI hL => ?_)
        refine lv_icmp_eq (tgt := 983) hx hb dL_law_526 (by decide) (fun c127 => ?_) (fun c127 => ?_)
        · replace h := it_p c127 h
          refine W.widen (k := ((22648 - 44 * (N + 1)) + 44)) (n := ((484466 - 819 * (N + 1)) + 819)) (by omega) (by omega) ?_
          exact hJ983 _ _ _ _ _ _ _ h hI hL (lv_sub hl [0, 1, 2, 3] rfl)
        · replace h := it_n c127 h
          refine lv_iconst (v := 0) hx hb dL_law_529 (by decide) ?_
          exact absurd (rt_s h).1 (by decide)
      replace h := it_n c6_6 h
      by_cases c6_7 : (e4 &&& (31 : Int32)) = (7 : Int32)
      · replace h := it_p c6_7 h
        refine hm_tableIn (k := 7) (tgt := 531) hx hb dL_law_33 c6_7 (by decide) (by decide) rfl (by decide) ?_
        refine lv_aload_n hx hb dL_law_531 rfl (lv_at hl 1 rfl) ?_
        refine lv_aload_n hx hb dL_law_532 rfl (lv_at hl 0 rfl) ?_
        refine lv_iload_n hx hb dL_law_533 rfl (lv_at hl 3 rfl) ?_
        refine lv_iconst (v := 1) hx hb dL_law_534 (by decide) ?_
        refine lv_iadd hx hb dL_law_535 ?_
        replace h := ob_s h
        obtain ⟨e128, h129, h⟩ := h
        refine hm_iald S hK hI h129 dL_law_536 ?_
        refine lv_aload_n hx hb dL_law_537 rfl (lv_at hl 0 rfl) ?_
        refine lv_iload_n hx hb dL_law_538 rfl (lv_at hl 3 rfl) ?_
        refine lv_iconst (v := 2) hx hb dL_law_539 (by decide) ?_
        refine lv_iadd hx hb dL_law_540 ?_
        replace h := ob_s h
        obtain ⟨e130, h131, h⟩ := h
        refine hm_iald S hK hI h131 dL_law_541 ?_
        refine lv_aload_n hx hb dL_law_542 rfl (lv_at hl 0 rfl) ?_
        refine lv_iload_n hx hb dL_law_543 rfl (lv_at hl 3 rfl) ?_
        refine lv_iconst (v := 3) hx hb dL_law_544 (by decide) ?_
        refine lv_iadd hx hb dL_law_545 ?_
        replace h := ob_s h
        obtain ⟨e132, h133, h⟩ := h
        refine hm_iald S hK hI h133 dL_law_546 ?_
        replace h := ob_s h
        obtain ⟨_, h135, h⟩ := h
        replace h := cb_s h
        obtain ⟨r137, σ136, h134, h⟩ := h
        refine hm_call (hm_runV (As := [.int e128, .int e130, .int e132]) (rest := []) (ci := 9) S hK hI (obC_s h135) rfl (mX7_make l E h134) (pm_L_48 hK) (pi_X7_make hK) (pl_X7_X7_make hK) ⟨by omega, by omega⟩ rfl hl.1 (Nat.le_of_ble_eq_true rfl) ⟨by omega, by omega⟩ dL_law_547) hL (fun H locs hI hL => ?_)
        refine lv_aload_n hx hb dL_law_550 rfl (lv_at hl 2 rfl) ?_
        refine lv_aload_n hx hb dL_law_551 rfl (lv_at hl 0 rfl) ?_
        refine lv_iload_n hx hb dL_law_552 rfl (lv_at hl 3 rfl) ?_
        refine lv_iconst (v := 1) hx hb dL_law_553 (by decide) ?_
        refine lv_iadd hx hb dL_law_554 ?_
        replace h := ob_s h
        obtain ⟨e138, h139, h⟩ := h
        refine hm_iald S hK hI h139 dL_law_555 ?_
        refine lv_aload_n hx hb dL_law_556 rfl (lv_at hl 0 rfl) ?_
        refine lv_iload_n hx hb dL_law_557 rfl (lv_at hl 3 rfl) ?_
        refine lv_iconst (v := 2) hx hb dL_law_558 (by decide) ?_
        refine lv_iadd hx hb dL_law_559 ?_
        replace h := ob_s h
        obtain ⟨e140, h141, h⟩ := h
        refine hm_iald S hK hI h141 dL_law_560 ?_
        refine lv_aload_n hx hb dL_law_561 rfl (lv_at hl 0 rfl) ?_
        refine lv_iload_n hx hb dL_law_562 rfl (lv_at hl 3 rfl) ?_
        refine lv_iconst (v := 3) hx hb dL_law_563 (by decide) ?_
        refine lv_iadd hx hb dL_law_564 ?_
        replace h := ob_s h
        obtain ⟨e142, h143, h⟩ := h
        refine hm_iald S hK hI h143 dL_law_565 ?_
        replace h := ob_s h
        obtain ⟨_, h145, h⟩ := h
        replace h := cb_s h
        obtain ⟨r147, σ146, h144, h⟩ := h
        refine hm_call (hm_runV (As := [.int e138, .int e140, .int e142]) (rest := [.int r137]) (ci := 10) S hK hI (obC_s h145) rfl (mX8_make l E h144) (pm_L_51 hK) (pi_X8_make hK) (pl_X8_X8_make hK) ⟨by omega, by omega⟩ rfl hl.1 (Nat.le_of_ble_eq_true rfl) ⟨by omega, by omega⟩ dL_law_566) hL (fun H locs hI hL => ?_)
        refine lv_icmp_eq (tgt := 983) hx hb dL_law_569 (by decide) (fun c148 => ?_) (fun c148 => ?_)
        · replace h := it_p c148 h
          refine W.widen (k := ((22648 - 44 * (N + 1)) + 44)) (n := ((484466 - 819 * (N + 1)) + 819)) (by omega) (by omega) ?_
          exact hJ983 _ _ _ _ _ _ _ h hI hL (lv_sub hl [0, 1, 2, 3] rfl)
        · replace h := it_n c148 h
          refine lv_iconst (v := 0) hx hb dL_law_572 (by decide) ?_
          exact absurd (rt_s h).1 (by decide)
      replace h := it_n c6_7 h
      by_cases c6_8 : (e4 &&& (31 : Int32)) = (8 : Int32)
      · replace h := it_p c6_8 h
        refine hm_tableIn (k := 8) (tgt := 574) hx hb dL_law_33 c6_8 (by decide) (by decide) rfl (by decide) ?_
        refine lv_aload_n hx hb dL_law_574 rfl (lv_at hl 1 rfl) ?_
        refine lv_aload_n hx hb dL_law_575 rfl (lv_at hl 0 rfl) ?_
        refine lv_iload_n hx hb dL_law_576 rfl (lv_at hl 3 rfl) ?_
        refine lv_iconst (v := 1) hx hb dL_law_577 (by decide) ?_
        refine lv_iadd hx hb dL_law_578 ?_
        replace h := ob_s h
        obtain ⟨e149, h150, h⟩ := h
        refine hm_iald S hK hI h150 dL_law_579 ?_
        refine lv_aload_n hx hb dL_law_580 rfl (lv_at hl 0 rfl) ?_
        refine lv_iload_n hx hb dL_law_581 rfl (lv_at hl 3 rfl) ?_
        refine lv_iconst (v := 2) hx hb dL_law_582 (by decide) ?_
        refine lv_iadd hx hb dL_law_583 ?_
        replace h := ob_s h
        obtain ⟨e151, h152, h⟩ := h
        refine hm_iald S hK hI h152 dL_law_584 ?_
        replace h := ob_s h
        obtain ⟨_, h154, h⟩ := h
        replace h := cb_s h
        obtain ⟨r156, σ155, h153, h⟩ := h
        refine hm_call (hm_runV (As := [.int e149, .int e151]) (rest := []) (ci := 9) S hK hI (obC_s h154) rfl (mX7_share l E h153) (pm_L_52 hK) (pi_X7_share hK) (pl_X7_X7_share hK) ⟨by omega, by omega⟩ rfl hl.1 (Nat.le_of_ble_eq_true rfl) ⟨by omega, by omega⟩ dL_law_585) hL (fun H locs hI hL => ?_)
        refine lv_aload_n hx hb dL_law_588 rfl (lv_at hl 2 rfl) ?_
        refine lv_aload_n hx hb dL_law_589 rfl (lv_at hl 0 rfl) ?_
        refine lv_iload_n hx hb dL_law_590 rfl (lv_at hl 3 rfl) ?_
        refine lv_iconst (v := 1) hx hb dL_law_591 (by decide) ?_
        refine lv_iadd hx hb dL_law_592 ?_
        replace h := ob_s h
        obtain ⟨e157, h158, h⟩ := h
        refine hm_iald S hK hI h158 dL_law_593 ?_
        refine lv_aload_n hx hb dL_law_594 rfl (lv_at hl 0 rfl) ?_
        refine lv_iload_n hx hb dL_law_595 rfl (lv_at hl 3 rfl) ?_
        refine lv_iconst (v := 2) hx hb dL_law_596 (by decide) ?_
        refine lv_iadd hx hb dL_law_597 ?_
        replace h := ob_s h
        obtain ⟨e159, h160, h⟩ := h
        refine hm_iald S hK hI h160 dL_law_598 ?_
        replace h := ob_s h
        obtain ⟨_, h162, h⟩ := h
        replace h := cb_s h
        obtain ⟨r164, σ163, h161, h⟩ := h
        refine hm_call (hm_runV (As := [.int e157, .int e159]) (rest := [.int r156]) (ci := 10) S hK hI (obC_s h162) rfl (mX8_share l E h161) (pm_L_55 hK) (pi_X8_share hK) (pl_X8_X8_share hK) ⟨by omega, by omega⟩ rfl hl.1 (Nat.le_of_ble_eq_true rfl) ⟨by omega, by omega⟩ dL_law_599) hL (fun H locs hI hL => ?_)
        refine lv_icmp_eq (tgt := 983) hx hb dL_law_602 (by decide) (fun c165 => ?_) (fun c165 => ?_)
        · replace h := it_p c165 h
          refine W.widen (k := ((22648 - 44 * (N + 1)) + 44)) (n := ((484466 - 819 * (N + 1)) + 819)) (by omega) (by omega) ?_
          exact hJ983 _ _ _ _ _ _ _ h hI hL (lv_sub hl [0, 1, 2, 3] rfl)
        · replace h := it_n c165 h
          refine lv_iconst (v := 0) hx hb dL_law_605 (by decide) ?_
          exact absurd (rt_s h).1 (by decide)
      replace h := it_n c6_8 h
      by_cases c6_9 : (e4 &&& (31 : Int32)) = (9 : Int32)
      · replace h := it_p c6_9 h
        refine hm_tableIn (k := 9) (tgt := 607) hx hb dL_law_33 c6_9 (by decide) (by decide) rfl (by decide) ?_
        refine lv_aload_n hx hb dL_law_607 rfl (lv_at hl 1 rfl) ?_
        refine lv_aload_n hx hb dL_law_608 rfl (lv_at hl 0 rfl) ?_
        refine lv_iload_n hx hb dL_law_609 rfl (lv_at hl 3 rfl) ?_
        refine lv_iconst (v := 1) hx hb dL_law_610 (by decide) ?_
        refine lv_iadd hx hb dL_law_611 ?_
        replace h := ob_s h
        obtain ⟨e166, h167, h⟩ := h
        refine hm_iald S hK hI h167 dL_law_612 ?_
        replace h := ob_s h
        obtain ⟨_, h169, h⟩ := h
        replace h := cb_s h
        obtain ⟨r171, σ170, h168, h⟩ := h
        refine hm_call (hm_runV (As := [.int e166]) (rest := []) (ci := 9) S hK hI (obC_s h169) rfl (mX7_free l E h168) (pm_L_56 hK) (pi_X7_free hK) (pl_X7_X7_free hK) ⟨by omega, by omega⟩ rfl hl.1 (Nat.le_of_ble_eq_true rfl) ⟨by omega, by omega⟩ dL_law_613) hL (fun H locs hI hL => ?_)
        refine lv_aload_n hx hb dL_law_616 rfl (lv_at hl 2 rfl) ?_
        refine lv_aload_n hx hb dL_law_617 rfl (lv_at hl 0 rfl) ?_
        refine lv_iload_n hx hb dL_law_618 rfl (lv_at hl 3 rfl) ?_
        refine lv_iconst (v := 1) hx hb dL_law_619 (by decide) ?_
        refine lv_iadd hx hb dL_law_620 ?_
        replace h := ob_s h
        obtain ⟨e172, h173, h⟩ := h
        refine hm_iald S hK hI h173 dL_law_621 ?_
        replace h := ob_s h
        obtain ⟨_, h175, h⟩ := h
        replace h := cb_s h
        obtain ⟨r177, σ176, h174, h⟩ := h
        refine hm_call (hm_runV (As := [.int e172]) (rest := [.int r171]) (ci := 10) S hK hI (obC_s h175) rfl (mX8_free l E h174) (pm_L_60 hK) (pi_X8_free hK) (pl_X8_X8_free hK) ⟨by omega, by omega⟩ rfl hl.1 (Nat.le_of_ble_eq_true rfl) ⟨by omega, by omega⟩ dL_law_622) hL (fun H locs hI hL => ?_)
        refine lv_icmp_eq (tgt := 983) hx hb dL_law_625 (by decide) (fun c178 => ?_) (fun c178 => ?_)
        · replace h := it_p c178 h
          refine W.widen (k := ((22648 - 44 * (N + 1)) + 44)) (n := ((484466 - 819 * (N + 1)) + 819)) (by omega) (by omega) ?_
          exact hJ983 _ _ _ _ _ _ _ h hI hL (lv_sub hl [0, 1, 2, 3] rfl)
        · replace h := it_n c178 h
          refine lv_iconst (v := 0) hx hb dL_law_628 (by decide) ?_
          exact absurd (rt_s h).1 (by decide)
      replace h := it_n c6_9 h
      by_cases c6_10 : (e4 &&& (31 : Int32)) = (10 : Int32)
      · replace h := it_p c6_10 h
        refine hm_tableIn (k := 10) (tgt := 630) hx hb dL_law_33 c6_10 (by decide) (by decide) rfl (by decide) ?_
        refine lv_aload_n hx hb dL_law_630 rfl (lv_at hl 1 rfl) ?_
        refine lv_aload_n hx hb dL_law_631 rfl (lv_at hl 0 rfl) ?_
        refine lv_iload_n hx hb dL_law_632 rfl (lv_at hl 3 rfl) ?_
        refine lv_iconst (v := 1) hx hb dL_law_633 (by decide) ?_
        refine lv_iadd hx hb dL_law_634 ?_
        replace h := ob_s h
        obtain ⟨e179, h180, h⟩ := h
        refine hm_iald S hK hI h180 dL_law_635 ?_
        refine lv_aload_n hx hb dL_law_636 rfl (lv_at hl 0 rfl) ?_
        refine lv_iload_n hx hb dL_law_637 rfl (lv_at hl 3 rfl) ?_
        refine lv_iconst (v := 2) hx hb dL_law_638 (by decide) ?_
        refine lv_iadd hx hb dL_law_639 ?_
        replace h := ob_s h
        obtain ⟨e181, h182, h⟩ := h
        refine hm_iald S hK hI h182 dL_law_640 ?_
        replace h := ob_s h
        obtain ⟨_, h184, h⟩ := h
        replace h := cb_s h
        obtain ⟨r186, σ185, h183, h⟩ := h
        refine hm_call (hm_runV (As := [.int e179, .int e181]) (rest := []) (ci := 9) S hK hI (obC_s h184) rfl (mX7_about l E h183) (pm_L_61 hK) (pi_X7_about hK) (pl_X7_X7_about hK) ⟨by omega, by omega⟩ rfl hl.1 (Nat.le_of_ble_eq_true rfl) ⟨by omega, by omega⟩ dL_law_641) hL (fun H locs hI hL => ?_)
        refine lv_aload_n hx hb dL_law_644 rfl (lv_at hl 2 rfl) ?_
        refine lv_aload_n hx hb dL_law_645 rfl (lv_at hl 0 rfl) ?_
        refine lv_iload_n hx hb dL_law_646 rfl (lv_at hl 3 rfl) ?_
        refine lv_iconst (v := 1) hx hb dL_law_647 (by decide) ?_
        refine lv_iadd hx hb dL_law_648 ?_
        replace h := ob_s h
        obtain ⟨e187, h188, h⟩ := h
        refine hm_iald S hK hI h188 dL_law_649 ?_
        refine lv_aload_n hx hb dL_law_650 rfl (lv_at hl 0 rfl) ?_
        refine lv_iload_n hx hb dL_law_651 rfl (lv_at hl 3 rfl) ?_
        refine lv_iconst (v := 2) hx hb dL_law_652 (by decide) ?_
        refine lv_iadd hx hb dL_law_653 ?_
        replace h := ob_s h
        obtain ⟨e189, h190, h⟩ := h
        refine hm_iald S hK hI h190 dL_law_654 ?_
        replace h := ob_s h
        obtain ⟨_, h192, h⟩ := h
        replace h := cb_s h
        obtain ⟨r194, σ193, h191, h⟩ := h
        refine hm_call (hm_runV (As := [.int e187, .int e189]) (rest := [.int r186]) (ci := 10) S hK hI (obC_s h192) rfl (mX8_about l E h191) (pm_L_64 hK) (pi_X8_about hK) (pl_X8_X8_about hK) ⟨by omega, by omega⟩ rfl hl.1 (Nat.le_of_ble_eq_true rfl) ⟨by omega, by omega⟩ dL_law_655) hL (fun H locs hI hL => ?_)
        refine lv_icmp_eq (tgt := 983) hx hb dL_law_658 (by decide) (fun c195 => ?_) (fun c195 => ?_)
        · replace h := it_p c195 h
          refine W.widen (k := ((22648 - 44 * (N + 1)) + 44)) (n := ((484466 - 819 * (N + 1)) + 819)) (by omega) (by omega) ?_
          exact hJ983 _ _ _ _ _ _ _ h hI hL (lv_sub hl [0, 1, 2, 3] rfl)
        · replace h := it_n c195 h
          refine lv_iconst (v := 0) hx hb dL_law_661 (by decide) ?_
          exact absurd (rt_s h).1 (by decide)
      replace h := it_n c6_10 h
      by_cases c6_11 : (e4 &&& (31 : Int32)) = (11 : Int32)
      · replace h := it_p c6_11 h
        refine hm_tableIn (k := 11) (tgt := 663) hx hb dL_law_33 c6_11 (by decide) (by decide) rfl (by decide) ?_
        refine lv_aload_n hx hb dL_law_663 rfl (lv_at hl 1 rfl) ?_
        refine lv_aload_n hx hb dL_law_664 rfl (lv_at hl 0 rfl) ?_
        refine lv_iload_n hx hb dL_law_665 rfl (lv_at hl 3 rfl) ?_
        refine lv_iconst (v := 1) hx hb dL_law_666 (by decide) ?_
        refine lv_iadd hx hb dL_law_667 ?_
        replace h := ob_s h
        obtain ⟨e196, h197, h⟩ := h
        refine hm_iald S hK hI h197 dL_law_668 ?_
        refine lv_aload_n hx hb dL_law_669 rfl (lv_at hl 0 rfl) ?_
        refine lv_iload_n hx hb dL_law_670 rfl (lv_at hl 3 rfl) ?_
        refine lv_iconst (v := 2) hx hb dL_law_671 (by decide) ?_
        refine lv_iadd hx hb dL_law_672 ?_
        replace h := ob_s h
        obtain ⟨e198, h199, h⟩ := h
        refine hm_iald S hK hI h199 dL_law_673 ?_
        replace h := ob_s h
        obtain ⟨_, h201, h⟩ := h
        replace h := cb_s h
        obtain ⟨r203, σ202, h200, h⟩ := h
        refine hm_call (hm_runV (As := [.int e196, .int e198]) (rest := []) (ci := 9) S hK hI (obC_s h201) rfl (mX7_same l E h200) (pm_L_65 hK) (pi_X7_same hK) (pl_X7_X7_same hK) ⟨by omega, by omega⟩ rfl hl.1 (Nat.le_of_ble_eq_true rfl) ⟨by omega, by omega⟩ dL_law_674) hL (fun H locs hI hL => ?_)
        refine lv_aload_n hx hb dL_law_677 rfl (lv_at hl 2 rfl) ?_
        refine lv_aload_n hx hb dL_law_678 rfl (lv_at hl 0 rfl) ?_
        refine lv_iload_n hx hb dL_law_679 rfl (lv_at hl 3 rfl) ?_
        refine lv_iconst (v := 1) hx hb dL_law_680 (by decide) ?_
        refine lv_iadd hx hb dL_law_681 ?_
        replace h := ob_s h
        obtain ⟨e204, h205, h⟩ := h
        refine hm_iald S hK hI h205 dL_law_682 ?_
        refine lv_aload_n hx hb dL_law_683 rfl (lv_at hl 0 rfl) ?_
        refine lv_iload_n hx hb dL_law_684 rfl (lv_at hl 3 rfl) ?_
        refine lv_iconst (v := 2) hx hb dL_law_685 (by decide) ?_
        refine lv_iadd hx hb dL_law_686 ?_
        replace h := ob_s h
        obtain ⟨e206, h207, h⟩ := h
        refine hm_iald S hK hI h207 dL_law_687 ?_
        replace h := ob_s h
        obtain ⟨_, h209, h⟩ := h
        replace h := cb_s h
        obtain ⟨r211, σ210, h208, h⟩ := h
        refine hm_call (hm_runV (As := [.int e204, .int e206]) (rest := [.int r203]) (ci := 10) S hK hI (obC_s h209) rfl (mX8_same l E h208) (pm_L_68 hK) (pi_X8_same hK) (pl_X8_X8_same hK) ⟨by omega, by omega⟩ rfl hl.1 (Nat.le_of_ble_eq_true rfl) ⟨by omega, by omega⟩ dL_law_688) hL (fun H locs hI hL => ?_)
        refine lv_icmp_eq (tgt := 983) hx hb dL_law_691 (by decide) (fun c212 => ?_) (fun c212 => ?_)
        · replace h := it_p c212 h
          refine W.widen (k := ((22648 - 44 * (N + 1)) + 44)) (n := ((484466 - 819 * (N + 1)) + 819)) (by omega) (by omega) ?_
          exact hJ983 _ _ _ _ _ _ _ h hI hL (lv_sub hl [0, 1, 2, 3] rfl)
        · replace h := it_n c212 h
          refine lv_iconst (v := 0) hx hb dL_law_694 (by decide) ?_
          exact absurd (rt_s h).1 (by decide)
      replace h := it_n c6_11 h
      by_cases c6_12 : (e4 &&& (31 : Int32)) = (12 : Int32)
      · replace h := it_p c6_12 h
        refine hm_tableIn (k := 12) (tgt := 696) hx hb dL_law_33 c6_12 (by decide) (by decide) rfl (by decide) ?_
        refine lv_aload_n hx hb dL_law_696 rfl (lv_at hl 1 rfl) ?_
        refine lv_aload_n hx hb dL_law_697 rfl (lv_at hl 0 rfl) ?_
        refine lv_iload_n hx hb dL_law_698 rfl (lv_at hl 3 rfl) ?_
        refine lv_iconst (v := 1) hx hb dL_law_699 (by decide) ?_
        refine lv_iadd hx hb dL_law_700 ?_
        replace h := ob_s h
        obtain ⟨e213, h214, h⟩ := h
        refine hm_iald S hK hI h214 dL_law_701 ?_
        refine lv_aload_n hx hb dL_law_702 rfl (lv_at hl 0 rfl) ?_
        refine lv_iload_n hx hb dL_law_703 rfl (lv_at hl 3 rfl) ?_
        refine lv_iconst (v := 2) hx hb dL_law_704 (by decide) ?_
        refine lv_iadd hx hb dL_law_705 ?_
        replace h := ob_s h
        obtain ⟨e215, h216, h⟩ := h
        refine hm_iald S hK hI h216 dL_law_706 ?_
        replace h := ob_s h
        obtain ⟨_, h218, h⟩ := h
        replace h := cb_s h
        obtain ⟨r220, σ219, h217, h⟩ := h
        refine hm_call (hm_runV (As := [.int e213, .int e215]) (rest := []) (ci := 9) S hK hI (obC_s h218) rfl (mX7_see l E h217) (pm_L_69 hK) (pi_X7_see hK) (pl_X7_X7_see hK) ⟨by omega, by omega⟩ rfl hl.1 (Nat.le_of_ble_eq_true rfl) ⟨by omega, by omega⟩ dL_law_707) hL (fun H locs hI hL => ?_)
        refine lv_aload_n hx hb dL_law_710 rfl (lv_at hl 2 rfl) ?_
        refine lv_aload_n hx hb dL_law_711 rfl (lv_at hl 0 rfl) ?_
        refine lv_iload_n hx hb dL_law_712 rfl (lv_at hl 3 rfl) ?_
        refine lv_iconst (v := 1) hx hb dL_law_713 (by decide) ?_
        refine lv_iadd hx hb dL_law_714 ?_
        replace h := ob_s h
        obtain ⟨e221, h222, h⟩ := h
        refine hm_iald S hK hI h222 dL_law_715 ?_
        refine lv_aload_n hx hb dL_law_716 rfl (lv_at hl 0 rfl) ?_
        refine lv_iload_n hx hb dL_law_717 rfl (lv_at hl 3 rfl) ?_
        refine lv_iconst (v := 2) hx hb dL_law_718 (by decide) ?_
        refine lv_iadd hx hb dL_law_719 ?_
        replace h := ob_s h
        obtain ⟨e223, h224, h⟩ := h
        refine hm_iald S hK hI h224 dL_law_720 ?_
        replace h := ob_s h
        obtain ⟨_, h226, h⟩ := h
        replace h := cb_s h
        obtain ⟨r228, σ227, h225, h⟩ := h
        refine hm_call (hm_runV (As := [.int e221, .int e223]) (rest := [.long r220]) (ci := 10) S hK hI (obC_s h226) rfl (mX8_see l E h225) (pm_L_73 hK) (pi_X8_see hK) (pl_X8_X8_see hK) ⟨by omega, by omega⟩ rfl hl.1 (Nat.le_of_ble_eq_true rfl) ⟨by omega, by omega⟩ dL_law_721) hL (fun H locs hI hL => ?_)
        refine W.lcmp hx hb dL_law_724 ?_
        refine lv_if_eq (tgt := 983) hx hb dL_law_725 (by decide) (fun c229 => ?_) (fun c229 => ?_)
        · replace h := it_p c229 h
          refine W.widen (k := ((22648 - 44 * (N + 1)) + 44)) (n := ((484466 - 819 * (N + 1)) + 819)) (by omega) (by omega) ?_
          exact hJ983 _ _ _ _ _ _ _ h hI hL (lv_sub hl [0, 1, 2, 3] rfl)
        · replace h := it_n c229 h
          refine lv_iconst (v := 0) hx hb dL_law_728 (by decide) ?_
          exact absurd (rt_s h).1 (by decide)
      replace h := it_n c6_12 h
      by_cases c6_13 : (e4 &&& (31 : Int32)) = (13 : Int32)
      · replace h := it_p c6_13 h
        refine hm_tableIn (k := 13) (tgt := 730) hx hb dL_law_33 c6_13 (by decide) (by decide) rfl (by decide) ?_
        refine lv_aload_n hx hb dL_law_730 rfl (lv_at hl 1 rfl) ?_
        refine lv_aload_n hx hb dL_law_731 rfl (lv_at hl 0 rfl) ?_
        refine lv_iload_n hx hb dL_law_732 rfl (lv_at hl 3 rfl) ?_
        refine lv_iconst (v := 1) hx hb dL_law_733 (by decide) ?_
        refine lv_iadd hx hb dL_law_734 ?_
        replace h := ob_s h
        obtain ⟨e230, h231, h⟩ := h
        refine hm_iald S hK hI h231 dL_law_735 ?_
        refine lv_aload_n hx hb dL_law_736 rfl (lv_at hl 0 rfl) ?_
        refine lv_iload_n hx hb dL_law_737 rfl (lv_at hl 3 rfl) ?_
        refine lv_iconst (v := 2) hx hb dL_law_738 (by decide) ?_
        refine lv_iadd hx hb dL_law_739 ?_
        replace h := ob_s h
        obtain ⟨e232, h233, h⟩ := h
        refine hm_iald S hK hI h233 dL_law_740 ?_
        refine lv_aload_n hx hb dL_law_741 rfl (lv_at hl 0 rfl) ?_
        refine lv_iload_n hx hb dL_law_742 rfl (lv_at hl 3 rfl) ?_
        refine lv_iconst (v := 3) hx hb dL_law_743 (by decide) ?_
        refine lv_iadd hx hb dL_law_744 ?_
        replace h := ob_s h
        obtain ⟨e234, h235, h⟩ := h
        refine hm_iald S hK hI h235 dL_law_745 ?_
        refine lv_i2l hx hb dL_law_746 rfl ?_
        refine lv_bipush (v := 32) hx hb dL_law_747 (by decide) ?_
        refine lv_lshl hx hb dL_law_749 rfl ?_
        refine lv_aload_n hx hb dL_law_750 rfl (lv_at hl 0 rfl) ?_
        refine lv_iload_n hx hb dL_law_751 rfl (lv_at hl 3 rfl) ?_
        refine lv_iconst (v := 4) hx hb dL_law_752 (by decide) ?_
        refine lv_iadd hx hb dL_law_753 ?_
        replace h := ob_s h
        obtain ⟨e236, h237, h⟩ := h
        refine hm_iald S hK hI h237 dL_law_754 ?_
        refine lv_i2l hx hb dL_law_755 rfl ?_
        refine lv_ldc2 (v := 4294967295) hx hb S.2.2.2.1 (hm_wd hK 1019 (by decide +kernel) rfl _) dL_law_756 ?_
        refine lv_land hx hb dL_law_759 ?_
        refine lv_lor hx hb dL_law_760 ?_
        replace h := ob_s h
        obtain ⟨_, h239, h⟩ := h
        replace h := cb_s h
        obtain ⟨r241, σ240, h238, h⟩ := h
        refine hm_call (hm_runV (As := [.int e230, .int e232, .long (((e234).toInt64 <<< (((32 : Int32)).toInt64 &&& 63)) ||| ((e236).toInt64 &&& (4294967295 : Int64)))]) (rest := []) (ci := 9) S hK hI (obC_s h239) rfl (mX7_put l E h238) (pm_L_74 hK) (pi_X7_put hK) (pl_X7_X7_put hK) ⟨by omega, by omega⟩ rfl hl.1 (Nat.le_of_ble_eq_true rfl) ⟨by omega, by omega⟩ dL_law_761) hL (fun H locs hI hL => ?_)
        refine lv_aload_n hx hb dL_law_764 rfl (lv_at hl 2 rfl) ?_
        refine lv_aload_n hx hb dL_law_765 rfl (lv_at hl 0 rfl) ?_
        refine lv_iload_n hx hb dL_law_766 rfl (lv_at hl 3 rfl) ?_
        refine lv_iconst (v := 1) hx hb dL_law_767 (by decide) ?_
        refine lv_iadd hx hb dL_law_768 ?_
        replace h := ob_s h
        obtain ⟨e242, h243, h⟩ := h
        refine hm_iald S hK hI h243 dL_law_769 ?_
        refine lv_aload_n hx hb dL_law_770 rfl (lv_at hl 0 rfl) ?_
        refine lv_iload_n hx hb dL_law_771 rfl (lv_at hl 3 rfl) ?_
        refine lv_iconst (v := 2) hx hb dL_law_772 (by decide) ?_
        refine lv_iadd hx hb dL_law_773 ?_
        replace h := ob_s h
        obtain ⟨e244, h245, h⟩ := h
        refine hm_iald S hK hI h245 dL_law_774 ?_
        refine lv_aload_n hx hb dL_law_775 rfl (lv_at hl 0 rfl) ?_
        refine lv_iload_n hx hb dL_law_776 rfl (lv_at hl 3 rfl) ?_
        refine lv_iconst (v := 3) hx hb dL_law_777 (by decide) ?_
        refine lv_iadd hx hb dL_law_778 ?_
        replace h := ob_s h
        obtain ⟨e246, h247, h⟩ := h
        refine hm_iald S hK hI h247 dL_law_779 ?_
        refine lv_i2l hx hb dL_law_780 rfl ?_
        refine lv_bipush (v := 32) hx hb dL_law_781 (by decide) ?_
        refine lv_lshl hx hb dL_law_783 rfl ?_
        refine lv_aload_n hx hb dL_law_784 rfl (lv_at hl 0 rfl) ?_
        refine lv_iload_n hx hb dL_law_785 rfl (lv_at hl 3 rfl) ?_
        refine lv_iconst (v := 4) hx hb dL_law_786 (by decide) ?_
        refine lv_iadd hx hb dL_law_787 ?_
        replace h := ob_s h
        obtain ⟨e248, h249, h⟩ := h
        refine hm_iald S hK hI h249 dL_law_788 ?_
        refine lv_i2l hx hb dL_law_789 rfl ?_
        refine lv_ldc2 (v := 4294967295) hx hb S.2.2.2.1 (hm_wd hK 1019 (by decide +kernel) rfl _) dL_law_790 ?_
        refine lv_land hx hb dL_law_793 ?_
        refine lv_lor hx hb dL_law_794 ?_
        replace h := ob_s h
        obtain ⟨_, h251, h⟩ := h
        replace h := cb_s h
        obtain ⟨r253, σ252, h250, h⟩ := h
        refine hm_call (hm_runV (As := [.int e242, .int e244, .long (((e246).toInt64 <<< (((32 : Int32)).toInt64 &&& 63)) ||| ((e248).toInt64 &&& (4294967295 : Int64)))]) (rest := [.int r241]) (ci := 10) S hK hI (obC_s h251) rfl (mX8_put_ l E h250) (pm_L_77 hK) (pi_X8_put_ hK) (pl_X8_X8_put_ hK) ⟨by omega, by omega⟩ rfl hl.1 (Nat.le_of_ble_eq_true rfl) ⟨by omega, by omega⟩ dL_law_795) hL (fun H locs hI hL => ?_)
        refine lv_icmp_eq (tgt := 983) hx hb dL_law_798 (by decide) (fun c254 => ?_) (fun c254 => ?_)
        · replace h := it_p c254 h
          refine W.widen (k := ((22648 - 44 * (N + 1)) + 44)) (n := ((484466 - 819 * (N + 1)) + 819)) (by omega) (by omega) ?_
          exact hJ983 _ _ _ _ _ _ _ h hI hL (lv_sub hl [0, 1, 2, 3] rfl)
        · replace h := it_n c254 h
          refine lv_iconst (v := 0) hx hb dL_law_801 (by decide) ?_
          exact absurd (rt_s h).1 (by decide)
      replace h := it_n c6_13 h
      by_cases c6_14 : (e4 &&& (31 : Int32)) = (14 : Int32)
      · replace h := it_p c6_14 h
        refine hm_tableIn (k := 14) (tgt := 803) hx hb dL_law_33 c6_14 (by decide) (by decide) rfl (by decide) ?_
        refine lv_aload_n hx hb dL_law_803 rfl (lv_at hl 1 rfl) ?_
        refine lv_aload_n hx hb dL_law_804 rfl (lv_at hl 0 rfl) ?_
        refine lv_iload_n hx hb dL_law_805 rfl (lv_at hl 3 rfl) ?_
        refine lv_iconst (v := 1) hx hb dL_law_806 (by decide) ?_
        refine lv_iadd hx hb dL_law_807 ?_
        replace h := ob_s h
        obtain ⟨e255, h256, h⟩ := h
        refine hm_iald S hK hI h256 dL_law_808 ?_
        refine lv_aload_n hx hb dL_law_809 rfl (lv_at hl 0 rfl) ?_
        refine lv_iload_n hx hb dL_law_810 rfl (lv_at hl 3 rfl) ?_
        refine lv_iconst (v := 2) hx hb dL_law_811 (by decide) ?_
        refine lv_iadd hx hb dL_law_812 ?_
        replace h := ob_s h
        obtain ⟨e257, h258, h⟩ := h
        refine hm_iald S hK hI h258 dL_law_813 ?_
        refine lv_aload_n hx hb dL_law_814 rfl (lv_at hl 0 rfl) ?_
        refine lv_iload_n hx hb dL_law_815 rfl (lv_at hl 3 rfl) ?_
        refine lv_iconst (v := 3) hx hb dL_law_816 (by decide) ?_
        refine lv_iadd hx hb dL_law_817 ?_
        replace h := ob_s h
        obtain ⟨e259, h260, h⟩ := h
        refine hm_iald S hK hI h260 dL_law_818 ?_
        replace h := ob_s h
        obtain ⟨_, h262, h⟩ := h
        replace h := cb_s h
        obtain ⟨r264, σ263, h261, h⟩ := h
        refine hm_call (hm_runV (As := [.int e255, .int e257, .int e259]) (rest := []) (ci := 9) S hK hI (obC_s h262) rfl (mX7_that l E h261) (pm_L_78 hK) (pi_X7_that hK) (pl_X7_X7_that hK) ⟨by omega, by omega⟩ rfl hl.1 (Nat.le_of_ble_eq_true rfl) ⟨by omega, by omega⟩ dL_law_819) hL (fun H locs hI hL => ?_)
        refine lv_aload_n hx hb dL_law_822 rfl (lv_at hl 2 rfl) ?_
        refine lv_aload_n hx hb dL_law_823 rfl (lv_at hl 0 rfl) ?_
        refine lv_iload_n hx hb dL_law_824 rfl (lv_at hl 3 rfl) ?_
        refine lv_iconst (v := 1) hx hb dL_law_825 (by decide) ?_
        refine lv_iadd hx hb dL_law_826 ?_
        replace h := ob_s h
        obtain ⟨e265, h266, h⟩ := h
        refine hm_iald S hK hI h266 dL_law_827 ?_
        refine lv_aload_n hx hb dL_law_828 rfl (lv_at hl 0 rfl) ?_
        refine lv_iload_n hx hb dL_law_829 rfl (lv_at hl 3 rfl) ?_
        refine lv_iconst (v := 2) hx hb dL_law_830 (by decide) ?_
        refine lv_iadd hx hb dL_law_831 ?_
        replace h := ob_s h
        obtain ⟨e267, h268, h⟩ := h
        refine hm_iald S hK hI h268 dL_law_832 ?_
        refine lv_aload_n hx hb dL_law_833 rfl (lv_at hl 0 rfl) ?_
        refine lv_iload_n hx hb dL_law_834 rfl (lv_at hl 3 rfl) ?_
        refine lv_iconst (v := 3) hx hb dL_law_835 (by decide) ?_
        refine lv_iadd hx hb dL_law_836 ?_
        replace h := ob_s h
        obtain ⟨e269, h270, h⟩ := h
        refine hm_iald S hK hI h270 dL_law_837 ?_
        replace h := ob_s h
        obtain ⟨_, h272, h⟩ := h
        replace h := cb_s h
        obtain ⟨r274, σ273, h271, h⟩ := h
        refine hm_call (hm_runV (As := [.int e265, .int e267, .int e269]) (rest := [.int r264]) (ci := 10) S hK hI (obC_s h272) rfl (mX8_that l E h271) (pm_L_81 hK) (pi_X8_that hK) (pl_X8_X8_that hK) ⟨by omega, by omega⟩ rfl hl.1 (Nat.le_of_ble_eq_true rfl) ⟨by omega, by omega⟩ dL_law_838) hL (fun H locs hI hL => ?_)
        refine lv_icmp_eq (tgt := 983) hx hb dL_law_841 (by decide) (fun c275 => ?_) (fun c275 => ?_)
        · replace h := it_p c275 h
          refine W.widen (k := ((22648 - 44 * (N + 1)) + 44)) (n := ((484466 - 819 * (N + 1)) + 819)) (by omega) (by omega) ?_
          exact hJ983 _ _ _ _ _ _ _ h hI hL (lv_sub hl [0, 1, 2, 3] rfl)
        · replace h := it_n c275 h
          refine lv_iconst (v := 0) hx hb dL_law_844 (by decide) ?_
          exact absurd (rt_s h).1 (by decide)
      replace h := it_n c6_14 h
      by_cases c6_15 : (e4 &&& (31 : Int32)) = (15 : Int32)
      · replace h := it_p c6_15 h
        refine hm_tableIn (k := 15) (tgt := 846) hx hb dL_law_33 c6_15 (by decide) (by decide) rfl (by decide) ?_
        refine lv_aload_n hx hb dL_law_846 rfl (lv_at hl 1 rfl) ?_
        refine lv_aload_n hx hb dL_law_847 rfl (lv_at hl 0 rfl) ?_
        refine lv_iload_n hx hb dL_law_848 rfl (lv_at hl 3 rfl) ?_
        refine lv_iconst (v := 1) hx hb dL_law_849 (by decide) ?_
        refine lv_iadd hx hb dL_law_850 ?_
        replace h := ob_s h
        obtain ⟨e276, h277, h⟩ := h
        refine hm_iald S hK hI h277 dL_law_851 ?_
        refine lv_aload_n hx hb dL_law_852 rfl (lv_at hl 0 rfl) ?_
        refine lv_iload_n hx hb dL_law_853 rfl (lv_at hl 3 rfl) ?_
        refine lv_iconst (v := 2) hx hb dL_law_854 (by decide) ?_
        refine lv_iadd hx hb dL_law_855 ?_
        replace h := ob_s h
        obtain ⟨e278, h279, h⟩ := h
        refine hm_iald S hK hI h279 dL_law_856 ?_
        replace h := ob_s h
        obtain ⟨_, h281, h⟩ := h
        replace h := cb_s h
        obtain ⟨r283, σ282, h280, h⟩ := h
        refine hm_call (hm_runV (As := [.int e276, .int e278]) (rest := []) (ci := 9) S hK hI (obC_s h281) rfl (mX7_constant l E h280) (pm_L_82 hK) (pi_X7_constant hK) (pl_X7_X7_constant hK) ⟨by omega, by omega⟩ rfl hl.1 (Nat.le_of_ble_eq_true rfl) ⟨by omega, by omega⟩ dL_law_857) hL (fun H locs hI hL => ?_)
        refine lv_aload_n hx hb dL_law_860 rfl (lv_at hl 2 rfl) ?_
        refine lv_aload_n hx hb dL_law_861 rfl (lv_at hl 0 rfl) ?_
        refine lv_iload_n hx hb dL_law_862 rfl (lv_at hl 3 rfl) ?_
        refine lv_iconst (v := 1) hx hb dL_law_863 (by decide) ?_
        refine lv_iadd hx hb dL_law_864 ?_
        replace h := ob_s h
        obtain ⟨e284, h285, h⟩ := h
        refine hm_iald S hK hI h285 dL_law_865 ?_
        refine lv_aload_n hx hb dL_law_866 rfl (lv_at hl 0 rfl) ?_
        refine lv_iload_n hx hb dL_law_867 rfl (lv_at hl 3 rfl) ?_
        refine lv_iconst (v := 2) hx hb dL_law_868 (by decide) ?_
        refine lv_iadd hx hb dL_law_869 ?_
        replace h := ob_s h
        obtain ⟨e286, h287, h⟩ := h
        refine hm_iald S hK hI h287 dL_law_870 ?_
        replace h := ob_s h
        obtain ⟨_, h289, h⟩ := h
        replace h := cb_s h
        obtain ⟨r291, σ290, h288, h⟩ := h
        refine hm_call (hm_runV (As := [.int e284, .int e286]) (rest := [.long r283]) (ci := 10) S hK hI (obC_s h289) rfl (mX8_constant l E h288) (pm_L_85 hK) (pi_X8_constant hK) (pl_X8_X8_constant hK) ⟨by omega, by omega⟩ rfl hl.1 (Nat.le_of_ble_eq_true rfl) ⟨by omega, by omega⟩ dL_law_871) hL (fun H locs hI hL => ?_)
        refine W.lcmp hx hb dL_law_874 ?_
        refine lv_if_eq (tgt := 983) hx hb dL_law_875 (by decide) (fun c292 => ?_) (fun c292 => ?_)
        · replace h := it_p c292 h
          refine W.widen (k := ((22648 - 44 * (N + 1)) + 44)) (n := ((484466 - 819 * (N + 1)) + 819)) (by omega) (by omega) ?_
          exact hJ983 _ _ _ _ _ _ _ h hI hL (lv_sub hl [0, 1, 2, 3] rfl)
        · replace h := it_n c292 h
          refine lv_iconst (v := 0) hx hb dL_law_878 (by decide) ?_
          exact absurd (rt_s h).1 (by decide)
      replace h := it_n c6_15 h
      by_cases c6_16 : (e4 &&& (31 : Int32)) = (16 : Int32)
      · replace h := it_p c6_16 h
        refine hm_tableIn (k := 16) (tgt := 880) hx hb dL_law_33 c6_16 (by decide) (by decide) rfl (by decide) ?_
        refine lv_aload_n hx hb dL_law_880 rfl (lv_at hl 1 rfl) ?_
        refine lv_aload_n hx hb dL_law_881 rfl (lv_at hl 0 rfl) ?_
        refine lv_iload_n hx hb dL_law_882 rfl (lv_at hl 3 rfl) ?_
        refine lv_iconst (v := 1) hx hb dL_law_883 (by decide) ?_
        refine lv_iadd hx hb dL_law_884 ?_
        replace h := ob_s h
        obtain ⟨e293, h294, h⟩ := h
        refine hm_iald S hK hI h294 dL_law_885 ?_
        refine lv_aload_n hx hb dL_law_886 rfl (lv_at hl 0 rfl) ?_
        refine lv_iload_n hx hb dL_law_887 rfl (lv_at hl 3 rfl) ?_
        refine lv_iconst (v := 2) hx hb dL_law_888 (by decide) ?_
        refine lv_iadd hx hb dL_law_889 ?_
        replace h := ob_s h
        obtain ⟨e295, h296, h⟩ := h
        refine hm_iald S hK hI h296 dL_law_890 ?_
        replace h := ob_s h
        obtain ⟨_, h298, h⟩ := h
        replace h := cb_s h
        obtain ⟨r300, σ299, h297, h⟩ := h
        refine hm_call (hm_runV (As := [.int e293, .int e295]) (rest := []) (ci := 9) S hK hI (obC_s h298) rfl (mX7_lambda l E h297) (pm_L_86 hK) (pi_X7_lambda hK) (pl_X7_X7_lambda hK) ⟨by omega, by omega⟩ rfl hl.1 (Nat.le_of_ble_eq_true rfl) ⟨by omega, by omega⟩ dL_law_891) hL (fun H locs hI hL => ?_)
        refine lv_aload_n hx hb dL_law_894 rfl (lv_at hl 2 rfl) ?_
        refine lv_aload_n hx hb dL_law_895 rfl (lv_at hl 0 rfl) ?_
        refine lv_iload_n hx hb dL_law_896 rfl (lv_at hl 3 rfl) ?_
        refine lv_iconst (v := 1) hx hb dL_law_897 (by decide) ?_
        refine lv_iadd hx hb dL_law_898 ?_
        replace h := ob_s h
        obtain ⟨e301, h302, h⟩ := h
        refine hm_iald S hK hI h302 dL_law_899 ?_
        refine lv_aload_n hx hb dL_law_900 rfl (lv_at hl 0 rfl) ?_
        refine lv_iload_n hx hb dL_law_901 rfl (lv_at hl 3 rfl) ?_
        refine lv_iconst (v := 2) hx hb dL_law_902 (by decide) ?_
        refine lv_iadd hx hb dL_law_903 ?_
        replace h := ob_s h
        obtain ⟨e303, h304, h⟩ := h
        refine hm_iald S hK hI h304 dL_law_904 ?_
        replace h := ob_s h
        obtain ⟨_, h306, h⟩ := h
        replace h := cb_s h
        obtain ⟨r308, σ307, h305, h⟩ := h
        refine hm_call (hm_runV (As := [.int e301, .int e303]) (rest := [.int r300]) (ci := 10) S hK hI (obC_s h306) rfl (mX8_lambda l E h305) (pm_L_89 hK) (pi_X8_lambda hK) (pl_X8_X8_lambda hK) ⟨by omega, by omega⟩ rfl hl.1 (Nat.le_of_ble_eq_true rfl) ⟨by omega, by omega⟩ dL_law_905) hL (fun H locs hI hL => ?_)
        refine lv_icmp_eq (tgt := 983) hx hb dL_law_908 (by decide) (fun c309 => ?_) (fun c309 => ?_)
        · replace h := it_p c309 h
          refine W.widen (k := ((22648 - 44 * (N + 1)) + 44)) (n := ((484466 - 819 * (N + 1)) + 819)) (by omega) (by omega) ?_
          exact hJ983 _ _ _ _ _ _ _ h hI hL (lv_sub hl [0, 1, 2, 3] rfl)
        · replace h := it_n c309 h
          refine lv_iconst (v := 0) hx hb dL_law_911 (by decide) ?_
          exact absurd (rt_s h).1 (by decide)
      replace h := it_n c6_16 h
      by_cases c6_17 : (e4 &&& (31 : Int32)) = (17 : Int32)
      · replace h := it_p c6_17 h
        refine hm_tableIn (k := 17) (tgt := 913) hx hb dL_law_33 c6_17 (by decide) (by decide) rfl (by decide) ?_
        refine lv_aload_n hx hb dL_law_913 rfl (lv_at hl 1 rfl) ?_
        refine lv_aload_n hx hb dL_law_914 rfl (lv_at hl 0 rfl) ?_
        refine lv_iload_n hx hb dL_law_915 rfl (lv_at hl 3 rfl) ?_
        refine lv_iconst (v := 1) hx hb dL_law_916 (by decide) ?_
        refine lv_iadd hx hb dL_law_917 ?_
        replace h := ob_s h
        obtain ⟨e310, h311, h⟩ := h
        refine hm_iald S hK hI h311 dL_law_918 ?_
        refine lv_aload_n hx hb dL_law_919 rfl (lv_at hl 0 rfl) ?_
        refine lv_iload_n hx hb dL_law_920 rfl (lv_at hl 3 rfl) ?_
        refine lv_iconst (v := 2) hx hb dL_law_921 (by decide) ?_
        refine lv_iadd hx hb dL_law_922 ?_
        replace h := ob_s h
        obtain ⟨e312, h313, h⟩ := h
        refine hm_iald S hK hI h313 dL_law_923 ?_
        replace h := ob_s h
        obtain ⟨_, h315, h⟩ := h
        replace h := cb_s h
        obtain ⟨r317, σ316, h314, h⟩ := h
        refine hm_call (hm_runV (As := [.int e310, .int e312]) (rest := []) (ci := 9) S hK hI (obC_s h315) rfl (mX7_seen l E h314) (pm_L_90 hK) (pi_X7_seen hK) (pl_X7_X7_seen hK) ⟨by omega, by omega⟩ rfl hl.1 (Nat.le_of_ble_eq_true rfl) ⟨by omega, by omega⟩ dL_law_924) hL (fun H locs hI hL => ?_)
        refine lv_aload_n hx hb dL_law_927 rfl (lv_at hl 2 rfl) ?_
        refine lv_aload_n hx hb dL_law_928 rfl (lv_at hl 0 rfl) ?_
        refine lv_iload_n hx hb dL_law_929 rfl (lv_at hl 3 rfl) ?_
        refine lv_iconst (v := 1) hx hb dL_law_930 (by decide) ?_
        refine lv_iadd hx hb dL_law_931 ?_
        replace h := ob_s h
        obtain ⟨e318, h319, h⟩ := h
        refine hm_iald S hK hI h319 dL_law_932 ?_
        refine lv_aload_n hx hb dL_law_933 rfl (lv_at hl 0 rfl) ?_
        refine lv_iload_n hx hb dL_law_934 rfl (lv_at hl 3 rfl) ?_
        refine lv_iconst (v := 2) hx hb dL_law_935 (by decide) ?_
        refine lv_iadd hx hb dL_law_936 ?_
        replace h := ob_s h
        obtain ⟨e320, h321, h⟩ := h
        refine hm_iald S hK hI h321 dL_law_937 ?_
        replace h := ob_s h
        obtain ⟨_, h323, h⟩ := h
        replace h := cb_s h
        obtain ⟨r325, σ324, h322, h⟩ := h
        refine hm_call (hm_runV (As := [.int e318, .int e320]) (rest := [.long r317]) (ci := 10) S hK hI (obC_s h323) rfl (mX8_seen l E h322) (pm_L_93 hK) (pi_X8_seen hK) (pl_X8_X8_seen hK) ⟨by omega, by omega⟩ rfl hl.1 (Nat.le_of_ble_eq_true rfl) ⟨by omega, by omega⟩ dL_law_938) hL (fun H locs hI hL => ?_)
        refine W.lcmp hx hb dL_law_941 ?_
        refine lv_if_eq (tgt := 983) hx hb dL_law_942 (by decide) (fun c326 => ?_) (fun c326 => ?_)
        · replace h := it_p c326 h
          refine W.widen (k := ((22648 - 44 * (N + 1)) + 44)) (n := ((484466 - 819 * (N + 1)) + 819)) (by omega) (by omega) ?_
          exact hJ983 _ _ _ _ _ _ _ h hI hL (lv_sub hl [0, 1, 2, 3] rfl)
        · replace h := it_n c326 h
          refine lv_iconst (v := 0) hx hb dL_law_945 (by decide) ?_
          exact absurd (rt_s h).1 (by decide)
      replace h := it_n c6_17 h
      by_cases c6_18 : (e4 &&& (31 : Int32)) = (18 : Int32)
      · replace h := it_p c6_18 h
        refine hm_tableIn (k := 18) (tgt := 947) hx hb dL_law_33 c6_18 (by decide) (by decide) rfl (by decide) ?_
        refine lv_aload_n hx hb dL_law_947 rfl (lv_at hl 1 rfl) ?_
        replace h := ob_s h
        obtain ⟨_, h328, h⟩ := h
        replace h := cb_s h
        obtain ⟨r330, σ329, h327, h⟩ := h
        refine hm_call (hm_runV (As := []) (rest := []) (ci := 9) S hK hI (obC_s h328) rfl (mX7_why l E h327) (pm_L_94 hK) (pi_X7_why hK) (pl_X7_X7_why hK) ⟨by omega, by omega⟩ rfl hl.1 (Nat.le_of_ble_eq_true rfl) ⟨by omega, by omega⟩ dL_law_948) hL (fun H locs hI hL => ?_)
        refine lv_aload_n hx hb dL_law_951 rfl (lv_at hl 2 rfl) ?_
        replace h := ob_s h
        obtain ⟨_, h332, h⟩ := h
        replace h := cb_s h
        obtain ⟨r334, σ333, h331, h⟩ := h
        refine hm_call (hm_runV (As := []) (rest := [.int r330]) (ci := 10) S hK hI (obC_s h332) rfl (mX8_why l E h331) (pm_L_98 hK) (pi_X8_why hK) (pl_X8_X8_why hK) ⟨by omega, by omega⟩ rfl hl.1 (Nat.le_of_ble_eq_true rfl) ⟨by omega, by omega⟩ dL_law_952) hL (fun H locs hI hL => ?_)
        refine lv_icmp_eq (tgt := 983) hx hb dL_law_955 (by decide) (fun c335 => ?_) (fun c335 => ?_)
        · replace h := it_p c335 h
          refine W.widen (k := ((22648 - 44 * (N + 1)) + 44)) (n := ((484466 - 819 * (N + 1)) + 819)) (by omega) (by omega) ?_
          exact hJ983 _ _ _ _ _ _ _ h hI hL (lv_sub hl [0, 1, 2, 3] rfl)
        · replace h := it_n c335 h
          refine lv_iconst (v := 0) hx hb dL_law_958 (by decide) ?_
          exact absurd (rt_s h).1 (by decide)
      replace h := it_n c6_18 h
      by_cases c6_19 : (e4 &&& (31 : Int32)) = (19 : Int32)
      · replace h := it_p c6_19 h
        refine hm_tableIn (k := 19) (tgt := 960) hx hb dL_law_33 c6_19 (by decide) (by decide) rfl (by decide) ?_
        refine lv_aload_n hx hb dL_law_960 rfl (lv_at hl 1 rfl) ?_
        refine lv_aload_n hx hb dL_law_961 rfl (lv_at hl 0 rfl) ?_
        refine lv_iload_n hx hb dL_law_962 rfl (lv_at hl 3 rfl) ?_
        refine lv_iconst (v := 1) hx hb dL_law_963 (by decide) ?_
        refine lv_iadd hx hb dL_law_964 ?_
        replace h := ob_s h
        obtain ⟨e336, h337, h⟩ := h
        refine hm_iald S hK hI h337 dL_law_965 ?_
        replace h := ob_s h
        obtain ⟨_, h339, h⟩ := h
        replace h := cb_s h
        obtain ⟨r341, σ340, h338, h⟩ := h
        refine hm_call (hm_runV (As := [.int e336]) (rest := []) (ci := 9) S hK hI (obC_s h339) rfl (mX7_count l E h338) (pm_L_99 hK) (pi_X7_count hK) (pl_X7_X7_count hK) ⟨by omega, by omega⟩ rfl hl.1 (Nat.le_of_ble_eq_true rfl) ⟨by omega, by omega⟩ dL_law_966) hL (fun H locs hI hL => ?_)
        refine lv_aload_n hx hb dL_law_969 rfl (lv_at hl 2 rfl) ?_
        refine lv_aload_n hx hb dL_law_970 rfl (lv_at hl 0 rfl) ?_
        refine lv_iload_n hx hb dL_law_971 rfl (lv_at hl 3 rfl) ?_
        refine lv_iconst (v := 1) hx hb dL_law_972 (by decide) ?_
        refine lv_iadd hx hb dL_law_973 ?_
        replace h := ob_s h
        obtain ⟨e342, h343, h⟩ := h
        refine hm_iald S hK hI h343 dL_law_974 ?_
        replace h := ob_s h
        obtain ⟨_, h345, h⟩ := h
        replace h := cb_s h
        obtain ⟨r347, σ346, h344, h⟩ := h
        refine hm_call (hm_runV (As := [.int e342]) (rest := [.int r341]) (ci := 10) S hK hI (obC_s h345) rfl (mX8_count l E h344) (pm_L_102 hK) (pi_X8_count hK) (pl_X8_X8_count hK) ⟨by omega, by omega⟩ rfl hl.1 (Nat.le_of_ble_eq_true rfl) ⟨by omega, by omega⟩ dL_law_975) hL (fun H locs hI hL => ?_)
        refine lv_icmp_eq (tgt := 983) hx hb dL_law_978 (by decide) (fun c348 => ?_) (fun c348 => ?_)
        · replace h := it_p c348 h
          refine W.widen (k := ((22648 - 44 * (N + 1)) + 44)) (n := ((484466 - 819 * (N + 1)) + 819)) (by omega) (by omega) ?_
          exact hJ983 _ _ _ _ _ _ _ h hI hL (lv_sub hl [0, 1, 2, 3] rfl)
        · replace h := it_n c348 h
          refine lv_iconst (v := 0) hx hb dL_law_981 (by decide) ?_
          exact absurd (rt_s h).1 (by decide)
      replace h := it_n c6_19 h
      refine hm_tableOut 20 (by decide) (x := (e4 &&& (31 : Int32))) (tgt := 983) hx hb dL_law_33 (by decide) (fun j hj => match j, hj with | 0, _ => c6_0 | 1, _ => c6_1 | 2, _ => c6_2 | 3, _ => c6_3 | 4, _ => c6_4 | 5, _ => c6_5 | 6, _ => c6_6 | 7, _ => c6_7 | 8, _ => c6_8 | 9, _ => c6_9 | 10, _ => c6_10 | 11, _ => c6_11 | 12, _ => c6_12 | 13, _ => c6_13 | 14, _ => c6_14 | 15, _ => c6_15 | 16, _ => c6_16 | 17, _ => c6_17 | 18, _ => c6_18 | 19, _ => c6_19 | j + 20, hj => absurd hj (by omega)) (by decide) ?_
      refine W.widen (k := ((22648 - 44 * (N + 1)) + 44)) (n := ((484466 - 819 * (N + 1)) + 819)) (by omega) (by omega) ?_
      exact hJ983 _ _ _ _ _ _ _ h hI hL (lv_sub hl [0, 1, 2, 3] rfl)
  have hL18 : ∀ n : Nat, n ≤ 514 → ∀ (v1 : Nat) (v2 : Nat) (v3 : Int32) (σ : hmS) (H : Heap) (locs : List Loc) (ls : Array Slot), fL_law_L18 E x0  n v1 v2 v3 σ = some ((1 : Int32), σ') → hmI E σ H → hmLo E locs → lv_has ls 4 [(0, .ref x0), (1, .ref v1), (2, .ref v2), (3, .int v3)] → W p l e room_1 s m #[Value.ref x0] below meth c H locs (22648 - 44 * n) (484466 - 819 * n) (lw_Z below #[Value.ref x0] s) (F0 m 18 ls []) := by
    intro n
    induction n with
    | zero =>
      intro _ v1 v2 v3 σ H locs ls h
      have h : none = some ((1 : Int32), σ') := h
      cases h
    | succ n ih => exact fun hn => hB18 n hn _ (ih (by omega))
  have h := hmain
  clear hmain
  unfold fL_law at h
  replace h := nw_s h
  obtain ⟨q1, σ2, h3, h4, h⟩ := h
  refine hm_new S hK hI (pn_L_7 hK) h3 h4 (by omega) (by omega) dL_law_0 (fun H hI => ?_)
  refine lv_dup hx hb dL_law_3 rfl ?_
  replace h := cb_s h
  obtain ⟨u0, σ6, h5, h⟩ := h
  refine hm_callv (hm_runI (As := []) (rest := [.ref q1]) S hK hI (mX7_init l E h5) (pm_L_9 hK) rfl (pi_X7_init hK) ⟨by omega, by omega⟩ rfl hl.1 (Nat.le_of_ble_eq_true rfl) ⟨by omega, by omega⟩ dL_law_4) hL (fun H locs hI hL => ?_)
  refine lv_astore_n (lv' := [(1, .ref q1), (0, .ref x0)]) hx hb dL_law_7 rfl hl (by decide) rfl (fun ls hl => ?_)
  replace h := nw_s h
  obtain ⟨q7, σ8, h9, h10, h⟩ := h
  refine hm_new S hK hI (pn_L_10 hK) h9 h10 (by omega) (by omega) dL_law_8 (fun H hI => ?_)
  refine lv_dup hx hb dL_law_11 rfl ?_
  replace h := cb_s h
  obtain ⟨u0, σ12, h11, h⟩ := h
  refine hm_callv (hm_runI (As := []) (rest := [.ref q7]) S hK hI (mX8_init l E h11) (pm_L_12 hK) rfl (pi_X8_init hK) ⟨by omega, by omega⟩ rfl hl.1 (Nat.le_of_ble_eq_true rfl) ⟨by omega, by omega⟩ dL_law_12) hL (fun H locs hI hL => ?_)
  refine lv_astore_n (lv' := [(2, .ref q7), (1, .ref q1), (0, .ref x0)]) hx hb dL_law_15 rfl hl (by decide) rfl (fun ls hl => ?_)
  refine lv_iconst (v := 0) hx hb dL_law_16 (by decide) ?_
  refine lv_istore_n (lv' := [(3, .int (0 : Int32)), (2, .ref q7), (1, .ref q1), (0, .ref x0)]) hx hb dL_law_17 rfl hl (by decide) rfl (fun ls hl => ?_)
  refine W.widen (k := (22648 - 44 * 514)) (n := (484466 - 819 * 514)) (by omega) (by omega) ?_
  exact hL18 514 (Nat.le_refl _) _ _ _ _ _ _ _ h hI hL (lv_sub hl [3, 2, 1, 0] rfl)
