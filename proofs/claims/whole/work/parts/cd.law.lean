def J_L_law_462 (E : Ev) (K23 : Nat → Nat → Nat → Nat → Int32 → Hp → Rs) (y0 : Nat) (y1 : Nat) (y2 : Nat) (y3 : Nat) (y4 : Int32) (y5 : Int32) (t0 : Nat) (t1 : Int32) (t2 : Int32) (t3 : Int32) (h : Hp) : Rs :=
  (gaS E y0 (y4 + (4 : Int32))).bind fun v467 =>
  (gaS E y0 (y4 + (5 : Int32))).bind fun v473 =>
  (isO h t0 12).bind fun _ => cI (F_X12_mark E t0 t1 t2 t3 v467 v473 h) fun v474 h474 =>
  (isO h474 y2 12).bind fun _ => cI (F_X12_thrown E y2 h474) fun v480 h480 =>
  if v480 = y5 then
    if ¬ y5 = 0 then
      K23 y0 y1 y2 y3 (y4 + (8 : Int32)) h480
    else
      (gaL E h480 y3 (0 : Int32)).bind fun v497 =>
      if v497 = ((v474).toInt64) then
        K23 y0 y1 y2 y3 (y4 + (8 : Int32)) h480
      else
        rtZ (0 : Int32) h480
  else
    rtZ (0 : Int32) h480
def J_L_law_417 (E : Ev) (K23 : Nat → Nat → Nat → Nat → Int32 → Hp → Rs) (y0 : Nat) (y1 : Nat) (y2 : Nat) (y3 : Nat) (y4 : Int32) (t0 : Nat) (t1 : Int32) (t2 : Int32) (t3 : Int32) (h : Hp) : Rs :=
  (gaS E y0 (y4 + (4 : Int32))).bind fun v422 =>
  (gaS E y0 (y4 + (5 : Int32))).bind fun v428 =>
  xI (F_L_mark E t0 t1 t2 t3 v422 v428 y3 h) (fun _ _ => none) fun v430 h430 =>
  (gaS E y0 (y4 + (1 : Int32))).bind fun v441 =>
  (gaS E y0 (y4 + (2 : Int32))).bind fun v447 =>
  (gaS E y0 (y4 + (3 : Int32))).bind fun v453 =>
  if v453 = 0 then
    J_L_law_462 E K23 y0 y1 y2 y3 y4 v430 y2 v441 v447 (0 : Int32) h430
  else
    J_L_law_462 E K23 y0 y1 y2 y3 y4 v430 y2 v441 v447 (1 : Int32) h430
def J_L_law_558 (E : Ev) (K23 : Nat → Nat → Nat → Nat → Int32 → Hp → Rs) (y0 : Nat) (y1 : Nat) (y2 : Nat) (y3 : Nat) (y4 : Int32) (y5 : Int32) (t0 : Nat) (t1 : Int32) (h : Hp) : Rs :=
  (gaS E y0 (y4 + (2 : Int32))).bind fun v563 =>
  (gaS E y0 (y4 + (3 : Int32))).bind fun v569 =>
  (isO h t0 12).bind fun _ => cI (F_X12_ends E t0 t1 v563 v569 h) fun v570 h570 =>
  (isO h570 y2 12).bind fun _ => cI (F_X12_thrown E y2 h570) fun v576 h576 =>
  if v576 = y5 then
    if ¬ y5 = 0 then
      K23 y0 y1 y2 y3 (y4 + (8 : Int32)) h576
    else
      (gaL E h576 y3 (0 : Int32)).bind fun v593 =>
      if v593 = ((v570).toInt64) then
        K23 y0 y1 y2 y3 (y4 + (8 : Int32)) h576
      else
        rtZ (0 : Int32) h576
  else
    rtZ (0 : Int32) h576
def J_L_law_525 (E : Ev) (K23 : Nat → Nat → Nat → Nat → Int32 → Hp → Rs) (y0 : Nat) (y1 : Nat) (y2 : Nat) (y3 : Nat) (y4 : Int32) (t0 : Nat) (t1 : Int32) (h : Hp) : Rs :=
  (gaS E y0 (y4 + (2 : Int32))).bind fun v530 =>
  (gaS E y0 (y4 + (3 : Int32))).bind fun v536 =>
  xI (F_L_ends E t0 t1 v530 v536 y3 h) (fun _ _ => none) fun v538 h538 =>
  (gaS E y0 (y4 + (1 : Int32))).bind fun v549 =>
  if v549 = 0 then
    J_L_law_558 E K23 y0 y1 y2 y3 y4 v538 y2 (0 : Int32) h538
  else
    J_L_law_558 E K23 y0 y1 y2 y3 y4 v538 y2 (1 : Int32) h538
def J_L_law_1021 (E : Ev) (K23 : Nat → Nat → Nat → Nat → Int32 → Hp → Rs) (y0 : Nat) (y1 : Nat) (y2 : Nat) (y3 : Nat) (y4 : Int32) (y5 : Int32) (t0 : Nat) (t1 : Int32) (t2 : Int32) (t3 : Int32) (t4 : Int32) (h : Hp) : Rs :=
  (gaS E y0 (y4 + (5 : Int32))).bind fun v1026 =>
  (isO h t0 12).bind fun _ => cI (F_X12_walker E t0 t1 t2 t3 t4 v1026 h) fun v1027 h1027 =>
  (isO h1027 y2 12).bind fun _ => cI (F_X12_thrown E y2 h1027) fun v1033 h1033 =>
  if v1033 = y5 then
    if ¬ y5 = 0 then
      K23 y0 y1 y2 y3 (y4 + (8 : Int32)) h1033
    else
      (gaL E h1033 y3 (0 : Int32)).bind fun v1050 =>
      if v1050 = ((v1027).toInt64) then
        K23 y0 y1 y2 y3 (y4 + (8 : Int32)) h1033
      else
        rtZ (0 : Int32) h1033
  else
    rtZ (0 : Int32) h1033
def J_L_law_1007 (E : Ev) (K23 : Nat → Nat → Nat → Nat → Int32 → Hp → Rs) (y0 : Nat) (y1 : Nat) (y2 : Nat) (y3 : Nat) (y4 : Int32) (y5 : Int32) (t0 : Nat) (t1 : Int32) (t2 : Int32) (t3 : Int32) (h : Hp) : Rs :=
  (gaS E y0 (y4 + (4 : Int32))).bind fun v1012 =>
  if v1012 = 0 then
    J_L_law_1021 E K23 y0 y1 y2 y3 y4 y5 t0 t1 t2 t3 (0 : Int32) h
  else
    J_L_law_1021 E K23 y0 y1 y2 y3 y4 y5 t0 t1 t2 t3 (1 : Int32) h
def J_L_law_968 (E : Ev) (K23 : Nat → Nat → Nat → Nat → Int32 → Hp → Rs) (y0 : Nat) (y1 : Nat) (y2 : Nat) (y3 : Nat) (y4 : Int32) (t0 : Nat) (t1 : Int32) (t2 : Int32) (t3 : Int32) (t4 : Int32) (h : Hp) : Rs :=
  (gaS E y0 (y4 + (5 : Int32))).bind fun v973 =>
  xI (F_L_walker E t0 t1 t2 t3 t4 v973 y3 h) (fun _ _ => none) fun v975 h975 =>
  (gaS E y0 (y4 + (1 : Int32))).bind fun v986 =>
  (gaS E y0 (y4 + (2 : Int32))).bind fun v992 =>
  (gaS E y0 (y4 + (3 : Int32))).bind fun v998 =>
  if v998 = 0 then
    J_L_law_1007 E K23 y0 y1 y2 y3 y4 v975 y2 v986 v992 (0 : Int32) h975
  else
    J_L_law_1007 E K23 y0 y1 y2 y3 y4 v975 y2 v986 v992 (1 : Int32) h975
def J_L_law_954 (E : Ev) (K23 : Nat → Nat → Nat → Nat → Int32 → Hp → Rs) (y0 : Nat) (y1 : Nat) (y2 : Nat) (y3 : Nat) (y4 : Int32) (t0 : Nat) (t1 : Int32) (t2 : Int32) (t3 : Int32) (h : Hp) : Rs :=
  (gaS E y0 (y4 + (4 : Int32))).bind fun v959 =>
  if v959 = 0 then
    J_L_law_968 E K23 y0 y1 y2 y3 y4 t0 t1 t2 t3 (0 : Int32) h
  else
    J_L_law_968 E K23 y0 y1 y2 y3 y4 t0 t1 t2 t3 (1 : Int32) h
def J_L_law_1181 (E : Ev) (K23 : Nat → Nat → Nat → Nat → Int32 → Hp → Rs) (y0 : Nat) (y1 : Nat) (y2 : Nat) (y3 : Nat) (y4 : Int32) (t0 : Int64) (t1 : Int64) (h : Hp) : Rs :=
  if t0 = t1 then
    K23 y0 y1 y2 y3 (y4 + (8 : Int32)) h
  else
    rtZ (0 : Int32) h
def J_L_law_1147 (E : Ev) (K23 : Nat → Nat → Nat → Nat → Int32 → Hp → Rs) (y0 : Nat) (y1 : Nat) (y2 : Nat) (y3 : Nat) (y4 : Int32) (y5 : Int32) (t0 : Nat) (t1 : Int32) (t2 : Int32) (t3 : Int32) (t4 : Int32) (t5 : Int32) (h : Hp) : Rs :=
  (isO h t0 12).bind fun _ => cI (F_X12_stands E t0 t1 t2 t3 t4 t5 h) fun v1147 h1147 =>
  (isO h1147 y2 12).bind fun _ => cI (F_X12_thrown E y2 h1147) fun v1153 h1153 =>
  if v1153 = y5 then
    if ¬ y5 = 0 then
      K23 y0 y1 y2 y3 (y4 + (8 : Int32)) h1153
    else
      (gaL E h1153 y3 (0 : Int32)).bind fun v1170 =>
      if v1147 = 0 then
        J_L_law_1181 E K23 y0 y1 y2 y3 y4 v1170 (0 : Int64) h1153
      else
        J_L_law_1181 E K23 y0 y1 y2 y3 y4 v1170 (1 : Int64) h1153
  else
    rtZ (0 : Int32) h1153
def J_L_law_1102 (E : Ev) (K23 : Nat → Nat → Nat → Nat → Int32 → Hp → Rs) (y0 : Nat) (y1 : Nat) (y2 : Nat) (y3 : Nat) (y4 : Int32) (t0 : Nat) (t1 : Int32) (t2 : Int32) (t3 : Int32) (t4 : Int32) (t5 : Int32) (h : Hp) : Rs :=
  xI (F_L_stands E t0 t1 t2 t3 t4 t5 y3 h) (fun _ _ => none) fun v1103 h1103 =>
  (gaS E y0 (y4 + (1 : Int32))).bind fun v1114 =>
  (gaS E y0 (y4 + (2 : Int32))).bind fun v1120 =>
  (gaS E y0 (y4 + (3 : Int32))).bind fun v1126 =>
  (gaS E y0 (y4 + (4 : Int32))).bind fun v1132 =>
  (gaS E y0 (y4 + (5 : Int32))).bind fun v1138 =>
  if v1138 = 0 then
    J_L_law_1147 E K23 y0 y1 y2 y3 y4 v1103 y2 v1114 v1120 v1126 v1132 (0 : Int32) h1103
  else
    J_L_law_1147 E K23 y0 y1 y2 y3 y4 v1103 y2 v1114 v1120 v1126 v1132 (1 : Int32) h1103
def J_L_law_1920 (E : Ev) (K23 : Nat → Nat → Nat → Nat → Int32 → Hp → Rs) (y0 : Nat) (y1 : Nat) (y2 : Nat) (y3 : Nat) (y4 : Int32) (t0 : Int64) (t1 : Int64) (h : Hp) : Rs :=
  if t0 = t1 then
    K23 y0 y1 y2 y3 (y4 + (8 : Int32)) h
  else
    rtZ (0 : Int32) h
def J_L_law_2209 (E : Ev) (K23 : Nat → Nat → Nat → Nat → Int32 → Hp → Rs) (y0 : Nat) (y1 : Nat) (y2 : Nat) (y3 : Nat) (y4 : Int32) (y5 : Int32) (t0 : Nat) (t1 : Int32) (t2 : Int32) (t3 : Int32) (t4 : Int32) (t5 : Int32) (h : Hp) : Rs :=
  (isO h t0 12).bind fun _ => cI (F_X12_hangs E t0 t1 t2 t3 t4 t5 h) fun v2209 h2209 =>
  (isO h2209 y2 12).bind fun _ => cI (F_X12_thrown E y2 h2209) fun v2215 h2215 =>
  if v2215 = y5 then
    if ¬ y5 = 0 then
      K23 y0 y1 y2 y3 (y4 + (8 : Int32)) h2215
    else
      (gaL E h2215 y3 (0 : Int32)).bind fun v2232 =>
      if v2232 = ((v2209).toInt64) then
        K23 y0 y1 y2 y3 (y4 + (8 : Int32)) h2215
      else
        rtZ (0 : Int32) h2215
  else
    rtZ (0 : Int32) h2215
def J_L_law_2164 (E : Ev) (K23 : Nat → Nat → Nat → Nat → Int32 → Hp → Rs) (y0 : Nat) (y1 : Nat) (y2 : Nat) (y3 : Nat) (y4 : Int32) (t0 : Nat) (t1 : Int32) (t2 : Int32) (t3 : Int32) (t4 : Int32) (t5 : Int32) (h : Hp) : Rs :=
  xI (F_L_hangs E t0 t1 t2 t3 t4 t5 y3 h) (fun _ _ => none) fun v2165 h2165 =>
  (gaS E y0 (y4 + (1 : Int32))).bind fun v2176 =>
  (gaS E y0 (y4 + (2 : Int32))).bind fun v2182 =>
  (gaS E y0 (y4 + (3 : Int32))).bind fun v2188 =>
  (gaS E y0 (y4 + (4 : Int32))).bind fun v2194 =>
  (gaS E y0 (y4 + (5 : Int32))).bind fun v2200 =>
  if v2200 = 0 then
    J_L_law_2209 E K23 y0 y1 y2 y3 y4 v2165 y2 v2176 v2182 v2188 v2194 (0 : Int32) h2165
  else
    J_L_law_2209 E K23 y0 y1 y2 y3 y4 v2165 y2 v2176 v2182 v2188 v2194 (1 : Int32) h2165
def J_L_law_2581 (E : Ev) (K23 : Nat → Nat → Nat → Nat → Int32 → Hp → Rs) (y0 : Nat) (y1 : Nat) (y2 : Nat) (y3 : Nat) (y4 : Int32) (y5 : Int32) (t0 : Nat) (t1 : Int32) (t2 : Int32) (t3 : Int32) (t4 : Int32) (t5 : Int32) (t6 : Int32) (t7 : Int32) (h : Hp) : Rs :=
  (isO h t0 12).bind fun _ => cI (F_X12_ask E t0 t1 t2 t3 t4 t5 t6 t7 h) fun v2581 h2581 =>
  (isO h2581 y2 12).bind fun _ => cI (F_X12_thrown E y2 h2581) fun v2587 h2587 =>
  if v2587 = y5 then
    if ¬ y5 = 0 then
      K23 y0 y1 y2 y3 (y4 + (8 : Int32)) h2587
    else
      (gaL E h2587 y3 (0 : Int32)).bind fun v2604 =>
      if v2604 = ((v2581).toInt64) then
        K23 y0 y1 y2 y3 (y4 + (8 : Int32)) h2587
      else
        rtZ (0 : Int32) h2587
  else
    rtZ (0 : Int32) h2587
def J_L_law_2522 (E : Ev) (K23 : Nat → Nat → Nat → Nat → Int32 → Hp → Rs) (y0 : Nat) (y1 : Nat) (y2 : Nat) (y3 : Nat) (y4 : Int32) (t0 : Nat) (t1 : Int32) (t2 : Int32) (t3 : Int32) (t4 : Int32) (t5 : Int32) (t6 : Int32) (t7 : Int32) (h : Hp) : Rs :=
  xI (F_L_ask E t0 t1 t2 t3 t4 t5 t6 t7 y3 h) (fun _ _ => none) fun v2523 h2523 =>
  (gaS E y0 (y4 + (1 : Int32))).bind fun v2534 =>
  (gaS E y0 (y4 + (2 : Int32))).bind fun v2540 =>
  (gaS E y0 (y4 + (3 : Int32))).bind fun v2546 =>
  (gaS E y0 (y4 + (4 : Int32))).bind fun v2552 =>
  (gaS E y0 (y4 + (5 : Int32))).bind fun v2558 =>
  (gaS E y0 (y4 + (6 : Int32))).bind fun v2565 =>
  (gaS E y0 (y4 + (7 : Int32))).bind fun v2572 =>
  if v2572 = 0 then
    J_L_law_2581 E K23 y0 y1 y2 y3 y4 v2523 y2 v2534 v2540 v2546 v2552 v2558 v2565 (0 : Int32) h2523
  else
    J_L_law_2581 E K23 y0 y1 y2 y3 y4 v2523 y2 v2534 v2540 v2546 v2552 v2558 v2565 (1 : Int32) h2523
def J_L_law_2968 (E : Ev) (K23 : Nat → Nat → Nat → Nat → Int32 → Hp → Rs) (y0 : Nat) (y1 : Nat) (y2 : Nat) (y3 : Nat) (y4 : Int32) (y5 : Int32) (t0 : Nat) (t1 : Int32) (t2 : Int32) (h : Hp) : Rs :=
  (isO h t0 12).bind fun _ => cI (F_X12_told E t0 t1 t2 h) fun v2968 h2968 =>
  (isO h2968 y2 12).bind fun _ => cI (F_X12_thrown E y2 h2968) fun v2974 h2974 =>
  if v2974 = y5 then
    if ¬ y5 = 0 then
      K23 y0 y1 y2 y3 (y4 + (8 : Int32)) h2974
    else
      (gaL E h2974 y3 (0 : Int32)).bind fun v2991 =>
      if v2991 = ((v2968).toInt64) then
        K23 y0 y1 y2 y3 (y4 + (8 : Int32)) h2974
      else
        rtZ (0 : Int32) h2974
  else
    rtZ (0 : Int32) h2974
def J_L_law_2941 (E : Ev) (K23 : Nat → Nat → Nat → Nat → Int32 → Hp → Rs) (y0 : Nat) (y1 : Nat) (y2 : Nat) (y3 : Nat) (y4 : Int32) (t0 : Nat) (t1 : Int32) (t2 : Int32) (h : Hp) : Rs :=
  xI (F_L_told E t0 t1 t2 y3 h) (fun _ _ => none) fun v2942 h2942 =>
  (gaS E y0 (y4 + (1 : Int32))).bind fun v2953 =>
  (gaS E y0 (y4 + (2 : Int32))).bind fun v2959 =>
  if v2959 = 0 then
    J_L_law_2968 E K23 y0 y1 y2 y3 y4 v2942 y2 v2953 (0 : Int32) h2942
  else
    J_L_law_2968 E K23 y0 y1 y2 y3 y4 v2942 y2 v2953 (1 : Int32) h2942
def J_L_law_23 (E : Ev) (K23 : Nat → Nat → Nat → Nat → Int32 → Hp → Rs) (K3255 : Nat → Nat → Nat → Nat → Int32 → Hp → Rs) (y0 : Nat) (y1 : Nat) (y2 : Nat) (y3 : Nat) (y4 : Int32) (h : Hp) : Rs :=
  (alnS E y0).bind fun v26 =>
  if (v26 - (8 : Int32)) < y4 then
    rtZ (1 : Int32) h
  else
    (gaS E y0 y4).bind fun v36 =>
    if (v36 &&& (63 : Int32)) = (0 : Int32) then
      (gaS E y0 (y4 + (1 : Int32))).bind fun v210 =>
      (gaS E y0 (y4 + (2 : Int32))).bind fun v216 =>
      xI (F_L_place E y1 v210 v216 y3 h) (fun _ _ => none) fun v218 h218 =>
      (gaS E y0 (y4 + (1 : Int32))).bind fun v229 =>
      (gaS E y0 (y4 + (2 : Int32))).bind fun v235 =>
      (isO h218 y2 12).bind fun _ => cI (F_X12_place E y2 v229 v235 h218) fun v236 h236 =>
      (isO h236 y2 12).bind fun _ => cI (F_X12_thrown E y2 h236) fun v242 h242 =>
      if v242 = v218 then
        if ¬ v218 = 0 then
          K23 y0 y1 y2 y3 (y4 + (8 : Int32)) h242
        else
          (gaL E h242 y3 (0 : Int32)).bind fun v259 =>
          if v259 = ((v236).toInt64) then
            K23 y0 y1 y2 y3 (y4 + (8 : Int32)) h242
          else
            rtZ (0 : Int32) h242
      else
        rtZ (0 : Int32) h242
    else
    if (v36 &&& (63 : Int32)) = (1 : Int32) then
      (gaS E y0 (y4 + (1 : Int32))).bind fun v278 =>
      (gaS E y0 (y4 + (2 : Int32))).bind fun v284 =>
      (gaS E y0 (y4 + (3 : Int32))).bind fun v290 =>
      (gaS E y0 (y4 + (4 : Int32))).bind fun v296 =>
      (gaS E y0 (y4 + (5 : Int32))).bind fun v302 =>
      (gaS E y0 (y4 + (6 : Int32))).bind fun v309 =>
      xI (F_L_way E y1 v278 v284 v290 v296 v302 v309 y3 h) (fun _ _ => none) fun v311 h311 =>
      (gaS E y0 (y4 + (1 : Int32))).bind fun v322 =>
      (gaS E y0 (y4 + (2 : Int32))).bind fun v328 =>
      (gaS E y0 (y4 + (3 : Int32))).bind fun v334 =>
      (gaS E y0 (y4 + (4 : Int32))).bind fun v340 =>
      (gaS E y0 (y4 + (5 : Int32))).bind fun v346 =>
      (gaS E y0 (y4 + (6 : Int32))).bind fun v353 =>
      (isO h311 y2 12).bind fun _ => cI (F_X12_way E y2 v322 v328 v334 v340 v346 v353 h311) fun v354 h354 =>
      (isO h354 y2 12).bind fun _ => cI (F_X12_thrown E y2 h354) fun v360 h360 =>
      if v360 = v311 then
        if ¬ v311 = 0 then
          K23 y0 y1 y2 y3 (y4 + (8 : Int32)) h360
        else
          (gaL E h360 y3 (0 : Int32)).bind fun v377 =>
          if v377 = ((v354).toInt64) then
            K23 y0 y1 y2 y3 (y4 + (8 : Int32)) h360
          else
            rtZ (0 : Int32) h360
      else
        rtZ (0 : Int32) h360
    else
    if (v36 &&& (63 : Int32)) = (2 : Int32) then
      (gaS E y0 (y4 + (1 : Int32))).bind fun v396 =>
      (gaS E y0 (y4 + (2 : Int32))).bind fun v402 =>
      (gaS E y0 (y4 + (3 : Int32))).bind fun v408 =>
      if v408 = 0 then
        J_L_law_417 E K23 y0 y1 y2 y3 y4 y1 v396 v402 (0 : Int32) h
      else
        J_L_law_417 E K23 y0 y1 y2 y3 y4 y1 v396 v402 (1 : Int32) h
    else
    if (v36 &&& (63 : Int32)) = (3 : Int32) then
      (gaS E y0 (y4 + (1 : Int32))).bind fun v516 =>
      if v516 = 0 then
        J_L_law_525 E K23 y0 y1 y2 y3 y4 y1 (0 : Int32) h
      else
        J_L_law_525 E K23 y0 y1 y2 y3 y4 y1 (1 : Int32) h
    else
    if (v36 &&& (63 : Int32)) = (4 : Int32) then
      (gaS E y0 (y4 + (1 : Int32))).bind fun v612 =>
      (gaS E y0 (y4 + (2 : Int32))).bind fun v618 =>
      xI (F_L_state E y1 v612 v618 y3 h) (fun _ _ => none) fun v620 h620 =>
      (gaS E y0 (y4 + (1 : Int32))).bind fun v631 =>
      (gaS E y0 (y4 + (2 : Int32))).bind fun v637 =>
      (isO h620 y2 12).bind fun _ => cI (F_X12_state E y2 v631 v637 h620) fun v638 h638 =>
      (isO h638 y2 12).bind fun _ => cI (F_X12_thrown E y2 h638) fun v644 h644 =>
      if v644 = v620 then
        if ¬ v620 = 0 then
          K23 y0 y1 y2 y3 (y4 + (8 : Int32)) h644
        else
          (gaL E h644 y3 (0 : Int32)).bind fun v661 =>
          if v661 = ((v638).toInt64) then
            K23 y0 y1 y2 y3 (y4 + (8 : Int32)) h644
          else
            rtZ (0 : Int32) h644
      else
        rtZ (0 : Int32) h644
    else
    if (v36 &&& (63 : Int32)) = (5 : Int32) then
      (gaS E y0 (y4 + (1 : Int32))).bind fun v680 =>
      (gaS E y0 (y4 + (2 : Int32))).bind fun v686 =>
      (gaS E y0 (y4 + (3 : Int32))).bind fun v692 =>
      xI (F_L_out E y1 v680 v686 v692 y3 h) (fun _ _ => none) fun v694 h694 =>
      (gaS E y0 (y4 + (1 : Int32))).bind fun v705 =>
      (gaS E y0 (y4 + (2 : Int32))).bind fun v711 =>
      (gaS E y0 (y4 + (3 : Int32))).bind fun v717 =>
      (isO h694 y2 12).bind fun _ => cI (F_X12_out E y2 v705 v711 v717 h694) fun v718 h718 =>
      (isO h718 y2 12).bind fun _ => cI (F_X12_thrown E y2 h718) fun v724 h724 =>
      if v724 = v694 then
        if ¬ v694 = 0 then
          K23 y0 y1 y2 y3 (y4 + (8 : Int32)) h724
        else
          (gaL E h724 y3 (0 : Int32)).bind fun v741 =>
          if v741 = ((v718).toInt64) then
            K23 y0 y1 y2 y3 (y4 + (8 : Int32)) h724
          else
            rtZ (0 : Int32) h724
      else
        rtZ (0 : Int32) h724
    else
    if (v36 &&& (63 : Int32)) = (6 : Int32) then
      (gaS E y0 (y4 + (1 : Int32))).bind fun v760 =>
      (gaS E y0 (y4 + (2 : Int32))).bind fun v766 =>
      (gaS E y0 (y4 + (3 : Int32))).bind fun v772 =>
      xI (F_L_on E y1 v760 v766 v772 y3 h) (fun _ _ => none) fun v774 h774 =>
      (gaS E y0 (y4 + (1 : Int32))).bind fun v785 =>
      (gaS E y0 (y4 + (2 : Int32))).bind fun v791 =>
      (gaS E y0 (y4 + (3 : Int32))).bind fun v797 =>
      (isO h774 y2 12).bind fun _ => cI (F_X12_on E y2 v785 v791 v797 h774) fun v798 h798 =>
      (isO h798 y2 12).bind fun _ => cI (F_X12_thrown E y2 h798) fun v804 h804 =>
      if v804 = v774 then
        if ¬ v774 = 0 then
          K23 y0 y1 y2 y3 (y4 + (8 : Int32)) h804
        else
          (gaL E h804 y3 (0 : Int32)).bind fun v821 =>
          if v821 = ((v798).toInt64) then
            K23 y0 y1 y2 y3 (y4 + (8 : Int32)) h804
          else
            rtZ (0 : Int32) h804
      else
        rtZ (0 : Int32) h804
    else
    if (v36 &&& (63 : Int32)) = (7 : Int32) then
      (isO h y1 11).bind fun _ => cI (F_X11_tongue E y1 h) fun v835 h835 =>
      (isO h835 y2 12).bind fun _ => cI (F_X12_tongue E y2 h835) fun v839 h839 =>
      if v835 = v839 then
        K23 y0 y1 y2 y3 (y4 + (8 : Int32)) h839
      else
        rtZ (0 : Int32) h839
    else
    if (v36 &&& (63 : Int32)) = (8 : Int32) then
      (gaS E y0 (y4 + (1 : Int32))).bind fun v853 =>
      (gaS E y0 (y4 + (2 : Int32))).bind fun v859 =>
      (gaS E y0 (y4 + (3 : Int32))).bind fun v865 =>
      xI (F_L_means E y1 v853 v859 v865 y3 h) (fun _ _ => none) fun v867 h867 =>
      (gaS E y0 (y4 + (1 : Int32))).bind fun v878 =>
      (gaS E y0 (y4 + (2 : Int32))).bind fun v884 =>
      (gaS E y0 (y4 + (3 : Int32))).bind fun v890 =>
      (isO h867 y2 12).bind fun _ => cI (F_X12_means E y2 v878 v884 v890 h867) fun v891 h891 =>
      (isO h891 y2 12).bind fun _ => cI (F_X12_thrown E y2 h891) fun v897 h897 =>
      if v897 = v867 then
        if ¬ v867 = 0 then
          K23 y0 y1 y2 y3 (y4 + (8 : Int32)) h897
        else
          (gaL E h897 y3 (0 : Int32)).bind fun v914 =>
          if v914 = ((v891).toInt64) then
            K23 y0 y1 y2 y3 (y4 + (8 : Int32)) h897
          else
            rtZ (0 : Int32) h897
      else
        rtZ (0 : Int32) h897
    else
    if (v36 &&& (63 : Int32)) = (9 : Int32) then
      (gaS E y0 (y4 + (1 : Int32))).bind fun v933 =>
      (gaS E y0 (y4 + (2 : Int32))).bind fun v939 =>
      (gaS E y0 (y4 + (3 : Int32))).bind fun v945 =>
      if v945 = 0 then
        J_L_law_954 E K23 y0 y1 y2 y3 y4 y1 v933 v939 (0 : Int32) h
      else
        J_L_law_954 E K23 y0 y1 y2 y3 y4 y1 v933 v939 (1 : Int32) h
    else
    if (v36 &&& (63 : Int32)) = (10 : Int32) then
      (gaS E y0 (y4 + (1 : Int32))).bind fun v1069 =>
      (gaS E y0 (y4 + (2 : Int32))).bind fun v1075 =>
      (gaS E y0 (y4 + (3 : Int32))).bind fun v1081 =>
      (gaS E y0 (y4 + (4 : Int32))).bind fun v1087 =>
      (gaS E y0 (y4 + (5 : Int32))).bind fun v1093 =>
      if v1093 = 0 then
        J_L_law_1102 E K23 y0 y1 y2 y3 y4 y1 v1069 v1075 v1081 v1087 (0 : Int32) h
      else
        J_L_law_1102 E K23 y0 y1 y2 y3 y4 y1 v1069 v1075 v1081 v1087 (1 : Int32) h
    else
    if (v36 &&& (63 : Int32)) = (11 : Int32) then
      (gaS E y0 (y4 + (1 : Int32))).bind fun v1196 =>
      (gaS E y0 (y4 + (2 : Int32))).bind fun v1202 =>
      (gaS E y0 (y4 + (3 : Int32))).bind fun v1208 =>
      (gaS E y0 (y4 + (4 : Int32))).bind fun v1214 =>
      xI (F_L_worth E y1 v1196 v1202 v1208 v1214 y3 h) (fun _ _ => none) fun v1216 h1216 =>
      (gaS E y0 (y4 + (1 : Int32))).bind fun v1227 =>
      (gaS E y0 (y4 + (2 : Int32))).bind fun v1233 =>
      (gaS E y0 (y4 + (3 : Int32))).bind fun v1239 =>
      (gaS E y0 (y4 + (4 : Int32))).bind fun v1245 =>
      (isO h1216 y2 12).bind fun _ => cI (F_X12_worth E y2 v1227 v1233 v1239 v1245 h1216) fun v1246 h1246 =>
      (isO h1246 y2 12).bind fun _ => cI (F_X12_thrown E y2 h1246) fun v1252 h1252 =>
      if v1252 = v1216 then
        if ¬ v1216 = 0 then
          K23 y0 y1 y2 y3 (y4 + (8 : Int32)) h1252
        else
          (gaL E h1252 y3 (0 : Int32)).bind fun v1269 =>
          if v1269 = ((v1246).toInt64) then
            K23 y0 y1 y2 y3 (y4 + (8 : Int32)) h1252
          else
            rtZ (0 : Int32) h1252
      else
        rtZ (0 : Int32) h1252
    else
    if (v36 &&& (63 : Int32)) = (12 : Int32) then
      (gaS E y0 (y4 + (1 : Int32))).bind fun v1288 =>
      (gaS E y0 (y4 + (2 : Int32))).bind fun v1294 =>
      (gaS E y0 (y4 + (3 : Int32))).bind fun v1300 =>
      (gaS E y0 (y4 + (4 : Int32))).bind fun v1306 =>
      (gaS E y0 (y4 + (5 : Int32))).bind fun v1312 =>
      (isO h y1 11).bind fun _ => cI (F_X11_feed E y1 v1288 v1294 v1300 v1306 v1312 h) fun v1313 h1313 =>
      (gaS E y0 (y4 + (1 : Int32))).bind fun v1322 =>
      (gaS E y0 (y4 + (2 : Int32))).bind fun v1328 =>
      (gaS E y0 (y4 + (3 : Int32))).bind fun v1334 =>
      (gaS E y0 (y4 + (4 : Int32))).bind fun v1340 =>
      (gaS E y0 (y4 + (5 : Int32))).bind fun v1346 =>
      (isO h1313 y2 12).bind fun _ => cI (F_X12_feed E y2 v1322 v1328 v1334 v1340 v1346 h1313) fun v1347 h1347 =>
      if v1313 = v1347 then
        K23 y0 y1 y2 y3 (y4 + (8 : Int32)) h1347
      else
        rtZ (0 : Int32) h1347
    else
    if (v36 &&& (63 : Int32)) = (13 : Int32) then
      (gaS E y0 (y4 + (1 : Int32))).bind fun v1361 =>
      (gaS E y0 (y4 + (2 : Int32))).bind fun v1367 =>
      (gaS E y0 (y4 + (3 : Int32))).bind fun v1373 =>
      xI (F_L_telling E y1 v1361 v1367 v1373 y3 h) (fun _ _ => none) fun v1375 h1375 =>
      (gaS E y0 (y4 + (1 : Int32))).bind fun v1386 =>
      (gaS E y0 (y4 + (2 : Int32))).bind fun v1392 =>
      (gaS E y0 (y4 + (3 : Int32))).bind fun v1398 =>
      (isO h1375 y2 12).bind fun _ => cI (F_X12_telling E y2 v1386 v1392 v1398 h1375) fun v1399 h1399 =>
      (isO h1399 y2 12).bind fun _ => cI (F_X12_thrown E y2 h1399) fun v1405 h1405 =>
      if v1405 = v1375 then
        if ¬ v1375 = 0 then
          K23 y0 y1 y2 y3 (y4 + (8 : Int32)) h1405
        else
          (gaL E h1405 y3 (0 : Int32)).bind fun v1422 =>
          if v1422 = ((v1399).toInt64) then
            K23 y0 y1 y2 y3 (y4 + (8 : Int32)) h1405
          else
            rtZ (0 : Int32) h1405
      else
        rtZ (0 : Int32) h1405
    else
    if (v36 &&& (63 : Int32)) = (14 : Int32) then
      (gaS E y0 (y4 + (1 : Int32))).bind fun v1441 =>
      (isO h y1 11).bind fun _ => cI (F_X11_fault E y1 v1441 h) fun v1442 h1442 =>
      (gaS E y0 (y4 + (1 : Int32))).bind fun v1451 =>
      (isO h1442 y2 12).bind fun _ => cI (F_X12_fault E y2 v1451 h1442) fun v1452 h1452 =>
      if v1442 = v1452 then
        K23 y0 y1 y2 y3 (y4 + (8 : Int32)) h1452
      else
        rtZ (0 : Int32) h1452
    else
    if (v36 &&& (63 : Int32)) = (15 : Int32) then
      (gaS E y0 (y4 + (1 : Int32))).bind fun v1466 =>
      xI (F_L_sayings E y1 v1466 y3 h) (fun _ _ => none) fun v1468 h1468 =>
      (gaS E y0 (y4 + (1 : Int32))).bind fun v1479 =>
      (isO h1468 y2 12).bind fun _ => cI (F_X12_sayings E y2 v1479 h1468) fun v1480 h1480 =>
      (isO h1480 y2 12).bind fun _ => cI (F_X12_thrown E y2 h1480) fun v1486 h1486 =>
      if v1486 = v1468 then
        if ¬ v1468 = 0 then
          K23 y0 y1 y2 y3 (y4 + (8 : Int32)) h1486
        else
          (gaL E h1486 y3 (0 : Int32)).bind fun v1503 =>
          if v1503 = ((v1480).toInt64) then
            K23 y0 y1 y2 y3 (y4 + (8 : Int32)) h1486
          else
            rtZ (0 : Int32) h1486
      else
        rtZ (0 : Int32) h1486
    else
    if (v36 &&& (63 : Int32)) = (16 : Int32) then
      (gaS E y0 (y4 + (1 : Int32))).bind fun v1522 =>
      (gaS E y0 (y4 + (2 : Int32))).bind fun v1528 =>
      (gaS E y0 (y4 + (3 : Int32))).bind fun v1534 =>
      (gaS E y0 (y4 + (4 : Int32))).bind fun v1540 =>
      (gaS E y0 (y4 + (5 : Int32))).bind fun v1546 =>
      (gaS E y0 (y4 + (6 : Int32))).bind fun v1553 =>
      xI (F_L_leads E y1 v1522 v1528 v1534 v1540 v1546 v1553 y3 h) (fun _ _ => none) fun v1555 h1555 =>
      (gaS E y0 (y4 + (1 : Int32))).bind fun v1566 =>
      (gaS E y0 (y4 + (2 : Int32))).bind fun v1572 =>
      (gaS E y0 (y4 + (3 : Int32))).bind fun v1578 =>
      (gaS E y0 (y4 + (4 : Int32))).bind fun v1584 =>
      (gaS E y0 (y4 + (5 : Int32))).bind fun v1590 =>
      (gaS E y0 (y4 + (6 : Int32))).bind fun v1597 =>
      (isO h1555 y2 12).bind fun _ => cI (F_X12_leads E y2 v1566 v1572 v1578 v1584 v1590 v1597 h1555) fun v1598 h1598 =>
      (isO h1598 y2 12).bind fun _ => cI (F_X12_thrown E y2 h1598) fun v1604 h1604 =>
      if v1604 = v1555 then
        if ¬ v1555 = 0 then
          K23 y0 y1 y2 y3 (y4 + (8 : Int32)) h1604
        else
          (gaL E h1604 y3 (0 : Int32)).bind fun v1621 =>
          if v1621 = ((v1598).toInt64) then
            K23 y0 y1 y2 y3 (y4 + (8 : Int32)) h1604
          else
            rtZ (0 : Int32) h1604
      else
        rtZ (0 : Int32) h1604
    else
    if (v36 &&& (63 : Int32)) = (17 : Int32) then
      (gaS E y0 (y4 + (1 : Int32))).bind fun v1640 =>
      (gaS E y0 (y4 + (2 : Int32))).bind fun v1646 =>
      (gaS E y0 (y4 + (3 : Int32))).bind fun v1652 =>
      (gaS E y0 (y4 + (4 : Int32))).bind fun v1658 =>
      xI (F_L_holds E y1 v1640 v1646 v1652 v1658 y3 h) (fun _ _ => none) fun v1660 h1660 =>
      (gaS E y0 (y4 + (1 : Int32))).bind fun v1671 =>
      (gaS E y0 (y4 + (2 : Int32))).bind fun v1677 =>
      (gaS E y0 (y4 + (3 : Int32))).bind fun v1683 =>
      (gaS E y0 (y4 + (4 : Int32))).bind fun v1689 =>
      (isO h1660 y2 12).bind fun _ => cI (F_X12_holds E y2 v1671 v1677 v1683 v1689 h1660) fun v1690 h1690 =>
      (isO h1690 y2 12).bind fun _ => cI (F_X12_thrown E y2 h1690) fun v1696 h1696 =>
      if v1696 = v1660 then
        if ¬ v1660 = 0 then
          K23 y0 y1 y2 y3 (y4 + (8 : Int32)) h1696
        else
          (gaL E h1696 y3 (0 : Int32)).bind fun v1713 =>
          if v1713 = ((v1690).toInt64) then
            K23 y0 y1 y2 y3 (y4 + (8 : Int32)) h1696
          else
            rtZ (0 : Int32) h1696
      else
        rtZ (0 : Int32) h1696
    else
    if (v36 &&& (63 : Int32)) = (18 : Int32) then
      (gaS E y0 (y4 + (1 : Int32))).bind fun v1732 =>
      (gaS E y0 (y4 + (2 : Int32))).bind fun v1738 =>
      (gaS E y0 (y4 + (3 : Int32))).bind fun v1744 =>
      (gaS E y0 (y4 + (4 : Int32))).bind fun v1750 =>
      (gaS E y0 (y4 + (5 : Int32))).bind fun v1756 =>
      xI (F_L_end E y1 v1732 v1738 v1744 v1750 v1756 y3 h) (fun _ _ => none) fun v1758 h1758 =>
      (gaS E y0 (y4 + (1 : Int32))).bind fun v1769 =>
      (gaS E y0 (y4 + (2 : Int32))).bind fun v1775 =>
      (gaS E y0 (y4 + (3 : Int32))).bind fun v1781 =>
      (gaS E y0 (y4 + (4 : Int32))).bind fun v1787 =>
      (gaS E y0 (y4 + (5 : Int32))).bind fun v1793 =>
      (isO h1758 y2 12).bind fun _ => cI (F_X12_end E y2 v1769 v1775 v1781 v1787 v1793 h1758) fun v1794 h1794 =>
      (isO h1794 y2 12).bind fun _ => cI (F_X12_thrown E y2 h1794) fun v1800 h1800 =>
      if v1800 = v1758 then
        if ¬ v1758 = 0 then
          K23 y0 y1 y2 y3 (y4 + (8 : Int32)) h1800
        else
          (gaL E h1800 y3 (0 : Int32)).bind fun v1817 =>
          if v1817 = ((v1794).toInt64) then
            K23 y0 y1 y2 y3 (y4 + (8 : Int32)) h1800
          else
            rtZ (0 : Int32) h1800
      else
        rtZ (0 : Int32) h1800
    else
    if (v36 &&& (63 : Int32)) = (19 : Int32) then
      (gaS E y0 (y4 + (1 : Int32))).bind fun v1836 =>
      (gaS E y0 (y4 + (2 : Int32))).bind fun v1842 =>
      (gaS E y0 (y4 + (3 : Int32))).bind fun v1848 =>
      (gaS E y0 (y4 + (4 : Int32))).bind fun v1854 =>
      xI (F_L_right E y1 v1836 v1842 v1848 v1854 y3 h) (fun _ _ => none) fun v1856 h1856 =>
      (gaS E y0 (y4 + (1 : Int32))).bind fun v1867 =>
      (gaS E y0 (y4 + (2 : Int32))).bind fun v1873 =>
      (gaS E y0 (y4 + (3 : Int32))).bind fun v1879 =>
      (gaS E y0 (y4 + (4 : Int32))).bind fun v1885 =>
      (isO h1856 y2 12).bind fun _ => cI (F_X12_right E y2 v1867 v1873 v1879 v1885 h1856) fun v1886 h1886 =>
      (isO h1886 y2 12).bind fun _ => cI (F_X12_thrown E y2 h1886) fun v1892 h1892 =>
      if v1892 = v1856 then
        if ¬ v1856 = 0 then
          K23 y0 y1 y2 y3 (y4 + (8 : Int32)) h1892
        else
          (gaL E h1892 y3 (0 : Int32)).bind fun v1909 =>
          if v1886 = 0 then
            J_L_law_1920 E K23 y0 y1 y2 y3 y4 v1909 (0 : Int64) h1892
          else
            J_L_law_1920 E K23 y0 y1 y2 y3 y4 v1909 (1 : Int64) h1892
      else
        rtZ (0 : Int32) h1892
    else
    if (v36 &&& (63 : Int32)) = (20 : Int32) then
      (gaS E y0 (y4 + (1 : Int32))).bind fun v1935 =>
      (gaS E y0 (y4 + (2 : Int32))).bind fun v1941 =>
      (gaS E y0 (y4 + (3 : Int32))).bind fun v1947 =>
      (gaS E y0 (y4 + (4 : Int32))).bind fun v1953 =>
      (gaS E y0 (y4 + (5 : Int32))).bind fun v1959 =>
      xI (F_L_odds E y1 v1935 v1941 v1947 v1953 v1959 y3 h) (fun _ _ => none) fun v1961 h1961 =>
      (gaS E y0 (y4 + (1 : Int32))).bind fun v1972 =>
      (gaS E y0 (y4 + (2 : Int32))).bind fun v1978 =>
      (gaS E y0 (y4 + (3 : Int32))).bind fun v1984 =>
      (gaS E y0 (y4 + (4 : Int32))).bind fun v1990 =>
      (gaS E y0 (y4 + (5 : Int32))).bind fun v1996 =>
      (isO h1961 y2 12).bind fun _ => cI (F_X12_odds E y2 v1972 v1978 v1984 v1990 v1996 h1961) fun v1997 h1997 =>
      (isO h1997 y2 12).bind fun _ => cI (F_X12_thrown E y2 h1997) fun v2003 h2003 =>
      if v2003 = v1961 then
        if ¬ v1961 = 0 then
          K23 y0 y1 y2 y3 (y4 + (8 : Int32)) h2003
        else
          (gaL E h2003 y3 (0 : Int32)).bind fun v2020 =>
          if v2020 = ((v1997).toInt64) then
            K23 y0 y1 y2 y3 (y4 + (8 : Int32)) h2003
          else
            rtZ (0 : Int32) h2003
      else
        rtZ (0 : Int32) h2003
    else
    if (v36 &&& (63 : Int32)) = (21 : Int32) then
      (gaS E y0 (y4 + (1 : Int32))).bind fun v2039 =>
      (gaS E y0 (y4 + (2 : Int32))).bind fun v2045 =>
      (gaS E y0 (y4 + (3 : Int32))).bind fun v2051 =>
      (gaS E y0 (y4 + (4 : Int32))).bind fun v2057 =>
      xI (F_L_parts E y1 v2039 v2045 v2051 v2057 y3 h) (fun _ _ => none) fun v2059 h2059 =>
      (gaS E y0 (y4 + (1 : Int32))).bind fun v2070 =>
      (gaS E y0 (y4 + (2 : Int32))).bind fun v2076 =>
      (gaS E y0 (y4 + (3 : Int32))).bind fun v2082 =>
      (gaS E y0 (y4 + (4 : Int32))).bind fun v2088 =>
      (isO h2059 y2 12).bind fun _ => cI (F_X12_parts E y2 v2070 v2076 v2082 v2088 h2059) fun v2089 h2089 =>
      (isO h2089 y2 12).bind fun _ => cI (F_X12_thrown E y2 h2089) fun v2095 h2095 =>
      if v2095 = v2059 then
        if ¬ v2059 = 0 then
          K23 y0 y1 y2 y3 (y4 + (8 : Int32)) h2095
        else
          (gaL E h2095 y3 (0 : Int32)).bind fun v2112 =>
          if v2112 = ((v2089).toInt64) then
            K23 y0 y1 y2 y3 (y4 + (8 : Int32)) h2095
          else
            rtZ (0 : Int32) h2095
      else
        rtZ (0 : Int32) h2095
    else
    if (v36 &&& (63 : Int32)) = (22 : Int32) then
      (gaS E y0 (y4 + (1 : Int32))).bind fun v2131 =>
      (gaS E y0 (y4 + (2 : Int32))).bind fun v2137 =>
      (gaS E y0 (y4 + (3 : Int32))).bind fun v2143 =>
      (gaS E y0 (y4 + (4 : Int32))).bind fun v2149 =>
      (gaS E y0 (y4 + (5 : Int32))).bind fun v2155 =>
      if v2155 = 0 then
        J_L_law_2164 E K23 y0 y1 y2 y3 y4 y1 v2131 v2137 v2143 v2149 (0 : Int32) h
      else
        J_L_law_2164 E K23 y0 y1 y2 y3 y4 y1 v2131 v2137 v2143 v2149 (1 : Int32) h
    else
    if (v36 &&& (63 : Int32)) = (23 : Int32) then
      (gaS E y0 (y4 + (1 : Int32))).bind fun v2251 =>
      (gaS E y0 (y4 + (2 : Int32))).bind fun v2257 =>
      (gaS E y0 (y4 + (3 : Int32))).bind fun v2263 =>
      (gaS E y0 (y4 + (4 : Int32))).bind fun v2269 =>
      xI (F_L_years E y1 v2251 v2257 v2263 v2269 y3 h) (fun _ _ => none) fun v2271 h2271 =>
      (gaS E y0 (y4 + (1 : Int32))).bind fun v2282 =>
      (gaS E y0 (y4 + (2 : Int32))).bind fun v2288 =>
      (gaS E y0 (y4 + (3 : Int32))).bind fun v2294 =>
      (gaS E y0 (y4 + (4 : Int32))).bind fun v2300 =>
      (isO h2271 y2 12).bind fun _ => cI (F_X12_years E y2 v2282 v2288 v2294 v2300 h2271) fun v2301 h2301 =>
      (isO h2301 y2 12).bind fun _ => cI (F_X12_thrown E y2 h2301) fun v2307 h2307 =>
      if v2307 = v2271 then
        if ¬ v2271 = 0 then
          K23 y0 y1 y2 y3 (y4 + (8 : Int32)) h2307
        else
          (gaL E h2307 y3 (0 : Int32)).bind fun v2324 =>
          if v2324 = ((v2301).toInt64) then
            K23 y0 y1 y2 y3 (y4 + (8 : Int32)) h2307
          else
            rtZ (0 : Int32) h2307
      else
        rtZ (0 : Int32) h2307
    else
    if (v36 &&& (63 : Int32)) = (24 : Int32) then
      (gaS E y0 (y4 + (1 : Int32))).bind fun v2343 =>
      (gaS E y0 (y4 + (2 : Int32))).bind fun v2349 =>
      (gaS E y0 (y4 + (3 : Int32))).bind fun v2355 =>
      (gaS E y0 (y4 + (4 : Int32))).bind fun v2361 =>
      (gaS E y0 (y4 + (5 : Int32))).bind fun v2367 =>
      (gaS E y0 (y4 + (6 : Int32))).bind fun v2374 =>
      (gaS E y0 (y4 + (7 : Int32))).bind fun v2381 =>
      xI (F_L_two E y1 v2343 v2349 v2355 v2361 v2367 v2374 v2381 y3 h) (fun _ _ => none) fun v2383 h2383 =>
      (gaS E y0 (y4 + (1 : Int32))).bind fun v2394 =>
      (gaS E y0 (y4 + (2 : Int32))).bind fun v2400 =>
      (gaS E y0 (y4 + (3 : Int32))).bind fun v2406 =>
      (gaS E y0 (y4 + (4 : Int32))).bind fun v2412 =>
      (gaS E y0 (y4 + (5 : Int32))).bind fun v2418 =>
      (gaS E y0 (y4 + (6 : Int32))).bind fun v2425 =>
      (gaS E y0 (y4 + (7 : Int32))).bind fun v2432 =>
      (isO h2383 y2 12).bind fun _ => cI (F_X12_two E y2 v2394 v2400 v2406 v2412 v2418 v2425 v2432 h2383) fun v2433 h2433 =>
      (isO h2433 y2 12).bind fun _ => cI (F_X12_thrown E y2 h2433) fun v2439 h2439 =>
      if v2439 = v2383 then
        if ¬ v2383 = 0 then
          K23 y0 y1 y2 y3 (y4 + (8 : Int32)) h2439
        else
          (gaL E h2439 y3 (0 : Int32)).bind fun v2456 =>
          if v2456 = ((v2433).toInt64) then
            K23 y0 y1 y2 y3 (y4 + (8 : Int32)) h2439
          else
            rtZ (0 : Int32) h2439
      else
        rtZ (0 : Int32) h2439
    else
    if (v36 &&& (63 : Int32)) = (25 : Int32) then
      (gaS E y0 (y4 + (1 : Int32))).bind fun v2475 =>
      (gaS E y0 (y4 + (2 : Int32))).bind fun v2481 =>
      (gaS E y0 (y4 + (3 : Int32))).bind fun v2487 =>
      (gaS E y0 (y4 + (4 : Int32))).bind fun v2493 =>
      (gaS E y0 (y4 + (5 : Int32))).bind fun v2499 =>
      (gaS E y0 (y4 + (6 : Int32))).bind fun v2506 =>
      (gaS E y0 (y4 + (7 : Int32))).bind fun v2513 =>
      if v2513 = 0 then
        J_L_law_2522 E K23 y0 y1 y2 y3 y4 y1 v2475 v2481 v2487 v2493 v2499 v2506 (0 : Int32) h
      else
        J_L_law_2522 E K23 y0 y1 y2 y3 y4 y1 v2475 v2481 v2487 v2493 v2499 v2506 (1 : Int32) h
    else
    if (v36 &&& (63 : Int32)) = (26 : Int32) then
      (gaS E y0 (y4 + (1 : Int32))).bind fun v2623 =>
      (gaS E y0 (y4 + (2 : Int32))).bind fun v2629 =>
      (gaS E y0 (y4 + (3 : Int32))).bind fun v2635 =>
      (gaS E y0 (y4 + (4 : Int32))).bind fun v2641 =>
      (gaS E y0 (y4 + (5 : Int32))).bind fun v2647 =>
      (gaS E y0 (y4 + (6 : Int32))).bind fun v2654 =>
      xI (F_L_shortest E y1 v2623 v2629 v2635 v2641 v2647 v2654 y3 h) (fun _ _ => none) fun v2656 h2656 =>
      (gaS E y0 (y4 + (1 : Int32))).bind fun v2667 =>
      (gaS E y0 (y4 + (2 : Int32))).bind fun v2673 =>
      (gaS E y0 (y4 + (3 : Int32))).bind fun v2679 =>
      (gaS E y0 (y4 + (4 : Int32))).bind fun v2685 =>
      (gaS E y0 (y4 + (5 : Int32))).bind fun v2691 =>
      (gaS E y0 (y4 + (6 : Int32))).bind fun v2698 =>
      (isO h2656 y2 12).bind fun _ => cI (F_X12_shortest E y2 v2667 v2673 v2679 v2685 v2691 v2698 h2656) fun v2699 h2699 =>
      (isO h2699 y2 12).bind fun _ => cI (F_X12_thrown E y2 h2699) fun v2705 h2705 =>
      if v2705 = v2656 then
        if ¬ v2656 = 0 then
          K23 y0 y1 y2 y3 (y4 + (8 : Int32)) h2705
        else
          (gaL E h2705 y3 (0 : Int32)).bind fun v2722 =>
          if v2722 = ((v2699).toInt64) then
            K23 y0 y1 y2 y3 (y4 + (8 : Int32)) h2705
          else
            rtZ (0 : Int32) h2705
      else
        rtZ (0 : Int32) h2705
    else
    if (v36 &&& (63 : Int32)) = (27 : Int32) then
      (gaS E y0 (y4 + (1 : Int32))).bind fun v2741 =>
      (gaS E y0 (y4 + (2 : Int32))).bind fun v2747 =>
      (gaS E y0 (y4 + (3 : Int32))).bind fun v2753 =>
      (gaS E y0 (y4 + (4 : Int32))).bind fun v2759 =>
      (gaS E y0 (y4 + (5 : Int32))).bind fun v2765 =>
      xI (F_L_went E y1 v2741 v2747 v2753 v2759 v2765 y3 h) (fun _ _ => none) fun v2767 h2767 =>
      (gaS E y0 (y4 + (1 : Int32))).bind fun v2778 =>
      (gaS E y0 (y4 + (2 : Int32))).bind fun v2784 =>
      (gaS E y0 (y4 + (3 : Int32))).bind fun v2790 =>
      (gaS E y0 (y4 + (4 : Int32))).bind fun v2796 =>
      (gaS E y0 (y4 + (5 : Int32))).bind fun v2802 =>
      (isO h2767 y2 12).bind fun _ => cI (F_X12_went E y2 v2778 v2784 v2790 v2796 v2802 h2767) fun v2803 h2803 =>
      (isO h2803 y2 12).bind fun _ => cI (F_X12_thrown E y2 h2803) fun v2809 h2809 =>
      if v2809 = v2767 then
        if ¬ v2767 = 0 then
          K23 y0 y1 y2 y3 (y4 + (8 : Int32)) h2809
        else
          (gaL E h2809 y3 (0 : Int32)).bind fun v2826 =>
          if v2826 = ((v2803).toInt64) then
            K23 y0 y1 y2 y3 (y4 + (8 : Int32)) h2809
          else
            rtZ (0 : Int32) h2809
      else
        rtZ (0 : Int32) h2809
    else
    if (v36 &&& (63 : Int32)) = (28 : Int32) then
      (gaS E y0 (y4 + (1 : Int32))).bind fun v2845 =>
      (gaS E y0 (y4 + (2 : Int32))).bind fun v2851 =>
      xI (F_L_learned E y1 v2845 v2851 y3 h) (fun _ _ => none) fun v2853 h2853 =>
      (gaS E y0 (y4 + (1 : Int32))).bind fun v2864 =>
      (gaS E y0 (y4 + (2 : Int32))).bind fun v2870 =>
      (isO h2853 y2 12).bind fun _ => cI (F_X12_learned E y2 v2864 v2870 h2853) fun v2871 h2871 =>
      (isO h2871 y2 12).bind fun _ => cI (F_X12_thrown E y2 h2871) fun v2877 h2877 =>
      if v2877 = v2853 then
        if ¬ v2853 = 0 then
          K23 y0 y1 y2 y3 (y4 + (8 : Int32)) h2877
        else
          (gaL E h2877 y3 (0 : Int32)).bind fun v2894 =>
          if v2894 = ((v2871).toInt64) then
            K23 y0 y1 y2 y3 (y4 + (8 : Int32)) h2877
          else
            rtZ (0 : Int32) h2877
      else
        rtZ (0 : Int32) h2877
    else
    if (v36 &&& (63 : Int32)) = (29 : Int32) then
      (isO h y1 11).bind fun _ => cI (F_X11_teller E y1 h) fun v2908 h2908 =>
      (isO h2908 y2 12).bind fun _ => cI (F_X12_teller E y2 h2908) fun v2912 h2912 =>
      if v2908 = v2912 then
        K23 y0 y1 y2 y3 (y4 + (8 : Int32)) h2912
      else
        rtZ (0 : Int32) h2912
    else
    if (v36 &&& (63 : Int32)) = (30 : Int32) then
      (gaS E y0 (y4 + (1 : Int32))).bind fun v2926 =>
      (gaS E y0 (y4 + (2 : Int32))).bind fun v2932 =>
      if v2932 = 0 then
        J_L_law_2941 E K23 y0 y1 y2 y3 y4 y1 v2926 (0 : Int32) h
      else
        J_L_law_2941 E K23 y0 y1 y2 y3 y4 y1 v2926 (1 : Int32) h
    else
    if (v36 &&& (63 : Int32)) = (31 : Int32) then
      (gaS E y0 (y4 + (1 : Int32))).bind fun v3010 =>
      (gaS E y0 (y4 + (2 : Int32))).bind fun v3016 =>
      (gaS E y0 (y4 + (3 : Int32))).bind fun v3022 =>
      xI (F_L_tray E y1 v3010 v3016 v3022 h) (fun _ _ => none) fun v3023 h3023 =>
      (gaS E y0 (y4 + (1 : Int32))).bind fun v3034 =>
      (gaS E y0 (y4 + (2 : Int32))).bind fun v3040 =>
      (gaS E y0 (y4 + (3 : Int32))).bind fun v3046 =>
      (isO h3023 y2 12).bind fun _ => cV (F_X12_tray E y2 v3034 v3040 v3046 h3023) fun h3047 =>
      (isO h3047 y2 12).bind fun _ => cI (F_X12_thrown E y2 h3047) fun v3051 h3051 =>
      if v3051 = v3023 then
        K23 y0 y1 y2 y3 (y4 + (8 : Int32)) h3051
      else
        rtZ (0 : Int32) h3051
    else
    if (v36 &&& (63 : Int32)) = (32 : Int32) then
      (gaS E y0 (y4 + (1 : Int32))).bind fun v3070 =>
      (gaS E y0 (y4 + (2 : Int32))).bind fun v3076 =>
      (gaS E y0 (y4 + (3 : Int32))).bind fun v3082 =>
      (gaS E y0 (y4 + (4 : Int32))).bind fun v3092 =>
      xI (F_L_write E y1 v3070 v3076 ((((v3082).toInt64) <<< (((32 : Int32)).toInt64 &&& 63)) ||| (((v3092).toInt64) &&& (4294967295 : Int64))) y3 h) (fun _ _ => none) fun v3100 h3100 =>
      (gaS E y0 (y4 + (1 : Int32))).bind fun v3111 =>
      (gaS E y0 (y4 + (2 : Int32))).bind fun v3117 =>
      (gaS E y0 (y4 + (3 : Int32))).bind fun v3123 =>
      (gaS E y0 (y4 + (4 : Int32))).bind fun v3133 =>
      (isO h3100 y2 12).bind fun _ => cL (F_X12_write E y2 v3111 v3117 ((((v3123).toInt64) <<< (((32 : Int32)).toInt64 &&& 63)) ||| (((v3133).toInt64) &&& (4294967295 : Int64))) h3100) fun v3140 h3140 =>
      (isO h3140 y2 12).bind fun _ => cI (F_X12_thrown E y2 h3140) fun v3146 h3146 =>
      if v3146 = v3100 then
        if ¬ v3100 = 0 then
          K23 y0 y1 y2 y3 (y4 + (8 : Int32)) h3146
        else
          (gaL E h3146 y3 (0 : Int32)).bind fun v3163 =>
          if v3163 = v3140 then
            K23 y0 y1 y2 y3 (y4 + (8 : Int32)) h3146
          else
            rtZ (0 : Int32) h3146
      else
        rtZ (0 : Int32) h3146
    else
    if (v36 &&& (63 : Int32)) = (33 : Int32) then
      (gaS E y0 (y4 + (1 : Int32))).bind fun v3181 =>
      (gaS E y0 (y4 + (2 : Int32))).bind fun v3187 =>
      (gaS E y0 (y4 + (3 : Int32))).bind fun v3193 =>
      xI (F_L_say E y1 v3181 v3187 v3193 y3 h) (fun _ _ => none) fun v3195 h3195 =>
      (gaS E y0 (y4 + (1 : Int32))).bind fun v3206 =>
      (gaS E y0 (y4 + (2 : Int32))).bind fun v3212 =>
      (gaS E y0 (y4 + (3 : Int32))).bind fun v3218 =>
      (isO h3195 y2 12).bind fun _ => cI (F_X12_say E y2 v3206 v3212 v3218 h3195) fun v3219 h3219 =>
      (isO h3219 y2 12).bind fun _ => cI (F_X12_thrown E y2 h3219) fun v3225 h3225 =>
      if v3225 = v3195 then
        if ¬ v3195 = 0 then
          K23 y0 y1 y2 y3 (y4 + (8 : Int32)) h3225
        else
          (gaL E h3225 y3 (0 : Int32)).bind fun v3242 =>
          if v3242 = ((v3219).toInt64) then
            K23 y0 y1 y2 y3 (y4 + (8 : Int32)) h3225
          else
            rtZ (0 : Int32) h3225
      else
        rtZ (0 : Int32) h3225
    else
    if (v36 &&& (63 : Int32)) = (34 : Int32) then
      K3255 y0 y1 y2 y3 y4 h
    else
    if (v36 &&& (63 : Int32)) = (35 : Int32) then
      (gaS E y0 (y4 + (1 : Int32))).bind fun v3297 =>
      xI (F_L_restore E y1 v3297 h) (fun _ _ => none) fun v3298 h3298 =>
      (gaS E y0 (y4 + (1 : Int32))).bind fun v3309 =>
      (isO h3298 y2 12).bind fun _ => cV (F_X12_restore E y2 v3309 h3298) fun h3310 =>
      (isO h3310 y2 12).bind fun _ => cI (F_X12_thrown E y2 h3310) fun v3314 h3314 =>
      if v3314 = v3298 then
        K23 y0 y1 y2 y3 (y4 + (8 : Int32)) h3314
      else
        rtZ (0 : Int32) h3314
    else
    if (v36 &&& (63 : Int32)) = (36 : Int32) then
      (gaS E y0 (y4 + (1 : Int32))).bind fun v3333 =>
      (isO h y1 11).bind fun _ => cI (F_X11_count E y1 v3333 h) fun v3334 h3334 =>
      (gaS E y0 (y4 + (1 : Int32))).bind fun v3343 =>
      (isO h3334 y2 12).bind fun _ => cI (F_X12_count E y2 v3343 h3334) fun v3344 h3344 =>
      if v3334 = v3344 then
        K23 y0 y1 y2 y3 (y4 + (8 : Int32)) h3344
      else
        rtZ (0 : Int32) h3344
    else
    K23 y0 y1 y2 y3 (y4 + (8 : Int32)) h
theorem sJ_L_law_462 {E : Ev} {d kc ks : Nat} {Φ : Ou → Hp → Prop} {y0 : Nat} {y1 : Nat} {y2 : Nat} {y3 : Nat} {y4 : Int32} {y5 : Int32} {y6 : Option Value} {y7 : Option Value} {t0 : Nat} {t1 : Int32} {t2 : Int32} {t3 : Int32} {h : Hp} {K23 : Nat → Nat → Nat → Nat → Int32 → Hp → Rs} (hK23 : ∀ (w0 : Nat) (w1 : Nat) (w2 : Nat) (w3 : Nat) (w4 : Int32) (w5 : Option Value) (w6 : Option Value) (w7 : Option Value) (h : Hp) (kc' ks' : Nat), kc ≤ kc' + 0 → ks ≤ ks' + 0 → OK (K23 w0 w1 w2 w3 w4 h) Φ → WE E mL_law (d + 13) 23 [some (.ref w0), some (.ref w1), some (.ref w2), some (.ref w3), some (.int w4), w5, w6, w7] [] h kc' ks' Φ) (q : OK (J_L_law_462 E K23 y0 y1 y2 y3 y4 y5 t0 t1 t2 t3 h) Φ) : WE E mL_law (d + 13) 462 [some (.ref y0), some (.ref y1), some (.ref y2), some (.ref y3), some (.int y4), some (.int y5), y6, y7] [.int t3, .int t2, .int t1, .ref t0] h kc ks Φ := by
  refine r_aload_n eL_law_462 rfl ?_
  refine r_iload eL_law_463 rfl ?_
  refine r_iconst (v := (4)) eL_law_465 (by decide) ?_
  refine r_iadd eL_law_466 ?_
  refine t_gaS eL_law_467 q (fun v467 q => ?_)
  refine r_aload_n eL_law_468 rfl ?_
  refine r_iload eL_law_469 rfl ?_
  refine r_iconst (v := (5)) eL_law_471 (by decide) ?_
  refine r_iadd eL_law_472 ?_
  refine t_gaS eL_law_473 q (fun v473 q => ?_)
  refine t_virtI (As := [_, _, _, _, _]) (rest := []) (d' := d + 9 + 3) (ci := 12) eL_law_474 k_13_152 rfl rfl rfl (by omega) (Nat.le_of_ble_eq_true rfl) (Nat.le_of_ble_eq_true rfl) (fun _ q => s_X12_mark q) q (fun v474 h474 q => ?_)
  refine r_istore (lv' := [_, _, _, _, _, _, _, _]) eL_law_477 (Nat.le_of_ble_eq_true rfl) rfl ?_
  refine r_aload_n eL_law_479 rfl ?_
  refine t_virtI (As := []) (rest := []) (d' := d + 12 + 0) (ci := 12) eL_law_480 k_13_141 rfl rfl rfl (by omega) (Nat.le_of_ble_eq_true rfl) (Nat.le_of_ble_eq_true rfl) (fun _ q => s_X12_thrown q) q (fun v480 h480 q => ?_)
  refine r_iload eL_law_483 rfl ?_
  refine t_icmp_eq eL_law_485 (t := 490) (by decide) q (fun q => ?_) (fun q => ?_)
  · refine r_iload eL_law_490 rfl ?_
    refine t_if_ne eL_law_492 (t := 507) (by decide) q (fun q => ?_) (fun q => ?_)
    · refine r_goto (t := 3352) eL_law_507 (by decide) ?_
      refine r_iinc (v := (8)) (lv' := [_, _, _, _, _, _, _, _]) eL_law_3352 rfl (by decide) rfl ?_
      refine r_goto (t := 23) eL_law_3355 (by decide) ?_
      exact hK23 _ _ _ _ _ _ _ _ _ _ _ (by omega) (by omega) q
    refine r_aload_n eL_law_495 rfl ?_
    refine r_iconst (v := (0)) eL_law_496 (by decide) ?_
    refine t_gaL eL_law_497 q (fun v497 q => ?_)
    refine r_iload eL_law_498 rfl ?_
    refine r_i2l eL_law_500 ?_
    refine t_lc_eq eL_law_501 eL_law_502 (t := 507) (by decide) q (fun q => ?_) (fun q => ?_)
    · refine r_goto (t := 3352) eL_law_507 (by decide) ?_
      refine r_iinc (v := (8)) (lv' := [_, _, _, _, _, _, _, _]) eL_law_3352 rfl (by decide) rfl ?_
      refine r_goto (t := 23) eL_law_3355 (by decide) ?_
      exact hK23 _ _ _ _ _ _ _ _ _ _ _ (by omega) (by omega) q
    refine r_iconst (v := (0)) eL_law_505 (by decide) ?_
    exact t_rtZ eL_law_506 rfl q
  refine r_iconst (v := (0)) eL_law_488 (by decide) ?_
  exact t_rtZ eL_law_489 rfl q
theorem sJ_L_law_417 {E : Ev} {d kc ks : Nat} {Φ : Ou → Hp → Prop} {y0 : Nat} {y1 : Nat} {y2 : Nat} {y3 : Nat} {y4 : Int32} {y5 : Option Value} {y6 : Option Value} {y7 : Option Value} {t0 : Nat} {t1 : Int32} {t2 : Int32} {t3 : Int32} {h : Hp} {K23 : Nat → Nat → Nat → Nat → Int32 → Hp → Rs} (hc : 2 ≤ kc) (hs : 12 ≤ ks) (hK23 : ∀ (w0 : Nat) (w1 : Nat) (w2 : Nat) (w3 : Nat) (w4 : Int32) (w5 : Option Value) (w6 : Option Value) (w7 : Option Value) (h : Hp) (kc' ks' : Nat), kc ≤ kc' + 2 → ks ≤ ks' + 12 → OK (K23 w0 w1 w2 w3 w4 h) Φ → WE E mL_law (d + 13) 23 [some (.ref w0), some (.ref w1), some (.ref w2), some (.ref w3), some (.int w4), w5, w6, w7] [] h kc' ks' Φ) (q : OK (J_L_law_417 E K23 y0 y1 y2 y3 y4 t0 t1 t2 t3 h) Φ) : WE E mL_law (d + 13) 417 [some (.ref y0), some (.ref y1), some (.ref y2), some (.ref y3), some (.int y4), y5, y6, y7] [.int t3, .int t2, .int t1, .ref t0] h kc ks Φ := by
  refine r_aload_n eL_law_417 rfl ?_
  refine r_iload eL_law_418 rfl ?_
  refine r_iconst (v := (4)) eL_law_420 (by decide) ?_
  refine r_iadd eL_law_421 ?_
  refine t_gaS eL_law_422 q (fun v422 q => ?_)
  refine r_aload_n eL_law_423 rfl ?_
  refine r_iload eL_law_424 rfl ?_
  refine r_iconst (v := (5)) eL_law_426 (by decide) ?_
  refine r_iadd eL_law_427 ?_
  refine t_gaS eL_law_428 q (fun v428 q => ?_)
  refine r_aload_n eL_law_429 rfl ?_
  refine t_statIx (As := [_, _, _, _, _, _, _]) (rest := []) (d' := d + 10 + 2) (mc := 2) (ms := 12) eL_law_430 k_13_149 l_13_149 rfl (by omega) (Nat.le_of_ble_eq_true rfl) (Nat.le_of_ble_eq_true rfl) (by omega) (by omega) (fun _ q => s_L_mark q) q (fun _ _ q => q.elim) (fun v430 h430 q => ?_)
  refine r_istore (lv' := [_, _, _, _, _, _, _, _]) eL_law_433 (Nat.le_of_ble_eq_true rfl) rfl ?_
  refine r_aload_n eL_law_435 rfl ?_
  refine r_aload_n eL_law_436 rfl ?_
  refine r_iload eL_law_437 rfl ?_
  refine r_iconst (v := (1)) eL_law_439 (by decide) ?_
  refine r_iadd eL_law_440 ?_
  refine t_gaS eL_law_441 q (fun v441 q => ?_)
  refine r_aload_n eL_law_442 rfl ?_
  refine r_iload eL_law_443 rfl ?_
  refine r_iconst (v := (2)) eL_law_445 (by decide) ?_
  refine r_iadd eL_law_446 ?_
  refine t_gaS eL_law_447 q (fun v447 q => ?_)
  refine r_aload_n eL_law_448 rfl ?_
  refine r_iload eL_law_449 rfl ?_
  refine r_iconst (v := (3)) eL_law_451 (by decide) ?_
  refine r_iadd eL_law_452 ?_
  refine t_gaS eL_law_453 q (fun v453 q => ?_)
  refine t_if_eq eL_law_454 (t := 461) (by decide) q (fun q => ?_) (fun q => ?_)
  · refine r_iconst (v := (0)) eL_law_461 (by decide) ?_
    exact sJ_L_law_462 (fun b0 b1 b2 b3 b4 b5 b6 b7 b8 b9 b10 g1 g2 q => hK23 b0 b1 b2 b3 b4 b5 b6 b7 b8 b9 b10 (by omega) (by omega) q) q
  refine r_iconst (v := (1)) eL_law_457 (by decide) ?_
  refine r_goto (t := 462) eL_law_458 (by decide) ?_
  exact sJ_L_law_462 (fun b0 b1 b2 b3 b4 b5 b6 b7 b8 b9 b10 g1 g2 q => hK23 b0 b1 b2 b3 b4 b5 b6 b7 b8 b9 b10 (by omega) (by omega) q) q
theorem sJ_L_law_558 {E : Ev} {d kc ks : Nat} {Φ : Ou → Hp → Prop} {y0 : Nat} {y1 : Nat} {y2 : Nat} {y3 : Nat} {y4 : Int32} {y5 : Int32} {y6 : Option Value} {y7 : Option Value} {t0 : Nat} {t1 : Int32} {h : Hp} {K23 : Nat → Nat → Nat → Nat → Int32 → Hp → Rs} (hK23 : ∀ (w0 : Nat) (w1 : Nat) (w2 : Nat) (w3 : Nat) (w4 : Int32) (w5 : Option Value) (w6 : Option Value) (w7 : Option Value) (h : Hp) (kc' ks' : Nat), kc ≤ kc' + 0 → ks ≤ ks' + 0 → OK (K23 w0 w1 w2 w3 w4 h) Φ → WE E mL_law (d + 13) 23 [some (.ref w0), some (.ref w1), some (.ref w2), some (.ref w3), some (.int w4), w5, w6, w7] [] h kc' ks' Φ) (q : OK (J_L_law_558 E K23 y0 y1 y2 y3 y4 y5 t0 t1 h) Φ) : WE E mL_law (d + 13) 558 [some (.ref y0), some (.ref y1), some (.ref y2), some (.ref y3), some (.int y4), some (.int y5), y6, y7] [.int t1, .ref t0] h kc ks Φ := by
  refine r_aload_n eL_law_558 rfl ?_
  refine r_iload eL_law_559 rfl ?_
  refine r_iconst (v := (2)) eL_law_561 (by decide) ?_
  refine r_iadd eL_law_562 ?_
  refine t_gaS eL_law_563 q (fun v563 q => ?_)
  refine r_aload_n eL_law_564 rfl ?_
  refine r_iload eL_law_565 rfl ?_
  refine r_iconst (v := (3)) eL_law_567 (by decide) ?_
  refine r_iadd eL_law_568 ?_
  refine t_gaS eL_law_569 q (fun v569 q => ?_)
  refine t_virtI (As := [_, _, _]) (rest := []) (d' := d + 10 + 2) (ci := 12) eL_law_570 k_13_156 rfl rfl rfl (by omega) (Nat.le_of_ble_eq_true rfl) (Nat.le_of_ble_eq_true rfl) (fun _ q => s_X12_ends q) q (fun v570 h570 q => ?_)
  refine r_istore (lv' := [_, _, _, _, _, _, _, _]) eL_law_573 (Nat.le_of_ble_eq_true rfl) rfl ?_
  refine r_aload_n eL_law_575 rfl ?_
  refine t_virtI (As := []) (rest := []) (d' := d + 12 + 0) (ci := 12) eL_law_576 k_13_141 rfl rfl rfl (by omega) (Nat.le_of_ble_eq_true rfl) (Nat.le_of_ble_eq_true rfl) (fun _ q => s_X12_thrown q) q (fun v576 h576 q => ?_)
  refine r_iload eL_law_579 rfl ?_
  refine t_icmp_eq eL_law_581 (t := 586) (by decide) q (fun q => ?_) (fun q => ?_)
  · refine r_iload eL_law_586 rfl ?_
    refine t_if_ne eL_law_588 (t := 603) (by decide) q (fun q => ?_) (fun q => ?_)
    · refine r_goto (t := 3352) eL_law_603 (by decide) ?_
      refine r_iinc (v := (8)) (lv' := [_, _, _, _, _, _, _, _]) eL_law_3352 rfl (by decide) rfl ?_
      refine r_goto (t := 23) eL_law_3355 (by decide) ?_
      exact hK23 _ _ _ _ _ _ _ _ _ _ _ (by omega) (by omega) q
    refine r_aload_n eL_law_591 rfl ?_
    refine r_iconst (v := (0)) eL_law_592 (by decide) ?_
    refine t_gaL eL_law_593 q (fun v593 q => ?_)
    refine r_iload eL_law_594 rfl ?_
    refine r_i2l eL_law_596 ?_
    refine t_lc_eq eL_law_597 eL_law_598 (t := 603) (by decide) q (fun q => ?_) (fun q => ?_)
    · refine r_goto (t := 3352) eL_law_603 (by decide) ?_
      refine r_iinc (v := (8)) (lv' := [_, _, _, _, _, _, _, _]) eL_law_3352 rfl (by decide) rfl ?_
      refine r_goto (t := 23) eL_law_3355 (by decide) ?_
      exact hK23 _ _ _ _ _ _ _ _ _ _ _ (by omega) (by omega) q
    refine r_iconst (v := (0)) eL_law_601 (by decide) ?_
    exact t_rtZ eL_law_602 rfl q
  refine r_iconst (v := (0)) eL_law_584 (by decide) ?_
  exact t_rtZ eL_law_585 rfl q
theorem sJ_L_law_525 {E : Ev} {d kc ks : Nat} {Φ : Ou → Hp → Prop} {y0 : Nat} {y1 : Nat} {y2 : Nat} {y3 : Nat} {y4 : Int32} {y5 : Option Value} {y6 : Option Value} {y7 : Option Value} {t0 : Nat} {t1 : Int32} {h : Hp} {K23 : Nat → Nat → Nat → Nat → Int32 → Hp → Rs} (hc : 1 ≤ kc) (hs : 6 ≤ ks) (hK23 : ∀ (w0 : Nat) (w1 : Nat) (w2 : Nat) (w3 : Nat) (w4 : Int32) (w5 : Option Value) (w6 : Option Value) (w7 : Option Value) (h : Hp) (kc' ks' : Nat), kc ≤ kc' + 1 → ks ≤ ks' + 6 → OK (K23 w0 w1 w2 w3 w4 h) Φ → WE E mL_law (d + 13) 23 [some (.ref w0), some (.ref w1), some (.ref w2), some (.ref w3), some (.int w4), w5, w6, w7] [] h kc' ks' Φ) (q : OK (J_L_law_525 E K23 y0 y1 y2 y3 y4 t0 t1 h) Φ) : WE E mL_law (d + 13) 525 [some (.ref y0), some (.ref y1), some (.ref y2), some (.ref y3), some (.int y4), y5, y6, y7] [.int t1, .ref t0] h kc ks Φ := by
  refine r_aload_n eL_law_525 rfl ?_
  refine r_iload eL_law_526 rfl ?_
  refine r_iconst (v := (2)) eL_law_528 (by decide) ?_
  refine r_iadd eL_law_529 ?_
  refine t_gaS eL_law_530 q (fun v530 q => ?_)
  refine r_aload_n eL_law_531 rfl ?_
  refine r_iload eL_law_532 rfl ?_
  refine r_iconst (v := (3)) eL_law_534 (by decide) ?_
  refine r_iadd eL_law_535 ?_
  refine t_gaS eL_law_536 q (fun v536 q => ?_)
  refine r_aload_n eL_law_537 rfl ?_
  refine t_statIx (As := [_, _, _, _, _]) (rest := []) (d' := d + 10 + 2) (mc := 1) (ms := 6) eL_law_538 k_13_153 l_13_153 rfl (by omega) (Nat.le_of_ble_eq_true rfl) (Nat.le_of_ble_eq_true rfl) (by omega) (by omega) (fun _ q => s_L_ends q) q (fun _ _ q => q.elim) (fun v538 h538 q => ?_)
  refine r_istore (lv' := [_, _, _, _, _, _, _, _]) eL_law_541 (Nat.le_of_ble_eq_true rfl) rfl ?_
  refine r_aload_n eL_law_543 rfl ?_
  refine r_aload_n eL_law_544 rfl ?_
  refine r_iload eL_law_545 rfl ?_
  refine r_iconst (v := (1)) eL_law_547 (by decide) ?_
  refine r_iadd eL_law_548 ?_
  refine t_gaS eL_law_549 q (fun v549 q => ?_)
  refine t_if_eq eL_law_550 (t := 557) (by decide) q (fun q => ?_) (fun q => ?_)
  · refine r_iconst (v := (0)) eL_law_557 (by decide) ?_
    exact sJ_L_law_558 (fun b0 b1 b2 b3 b4 b5 b6 b7 b8 b9 b10 g1 g2 q => hK23 b0 b1 b2 b3 b4 b5 b6 b7 b8 b9 b10 (by omega) (by omega) q) q
  refine r_iconst (v := (1)) eL_law_553 (by decide) ?_
  refine r_goto (t := 558) eL_law_554 (by decide) ?_
  exact sJ_L_law_558 (fun b0 b1 b2 b3 b4 b5 b6 b7 b8 b9 b10 g1 g2 q => hK23 b0 b1 b2 b3 b4 b5 b6 b7 b8 b9 b10 (by omega) (by omega) q) q
theorem sJ_L_law_1021 {E : Ev} {d kc ks : Nat} {Φ : Ou → Hp → Prop} {y0 : Nat} {y1 : Nat} {y2 : Nat} {y3 : Nat} {y4 : Int32} {y5 : Int32} {y6 : Option Value} {y7 : Option Value} {t0 : Nat} {t1 : Int32} {t2 : Int32} {t3 : Int32} {t4 : Int32} {h : Hp} {K23 : Nat → Nat → Nat → Nat → Int32 → Hp → Rs} (hK23 : ∀ (w0 : Nat) (w1 : Nat) (w2 : Nat) (w3 : Nat) (w4 : Int32) (w5 : Option Value) (w6 : Option Value) (w7 : Option Value) (h : Hp) (kc' ks' : Nat), kc ≤ kc' + 0 → ks ≤ ks' + 0 → OK (K23 w0 w1 w2 w3 w4 h) Φ → WE E mL_law (d + 13) 23 [some (.ref w0), some (.ref w1), some (.ref w2), some (.ref w3), some (.int w4), w5, w6, w7] [] h kc' ks' Φ) (q : OK (J_L_law_1021 E K23 y0 y1 y2 y3 y4 y5 t0 t1 t2 t3 t4 h) Φ) : WE E mL_law (d + 13) 1021 [some (.ref y0), some (.ref y1), some (.ref y2), some (.ref y3), some (.int y4), some (.int y5), y6, y7] [.int t4, .int t3, .int t2, .int t1, .ref t0] h kc ks Φ := by
  refine r_aload_n eL_law_1021 rfl ?_
  refine r_iload eL_law_1022 rfl ?_
  refine r_iconst (v := (5)) eL_law_1024 (by decide) ?_
  refine r_iadd eL_law_1025 ?_
  refine t_gaS eL_law_1026 q (fun v1026 q => ?_)
  refine t_virtI (As := [_, _, _, _, _]) (rest := []) (d' := d + 10 + 2) (ci := 12) eL_law_1027 k_13_177 rfl rfl rfl (by omega) (Nat.le_of_ble_eq_true rfl) (Nat.le_of_ble_eq_true rfl) (fun _ q => s_X12_walker q) q (fun v1027 h1027 q => ?_)
  refine r_istore (lv' := [_, _, _, _, _, _, _, _]) eL_law_1030 (Nat.le_of_ble_eq_true rfl) rfl ?_
  refine r_aload_n eL_law_1032 rfl ?_
  refine t_virtI (As := []) (rest := []) (d' := d + 12 + 0) (ci := 12) eL_law_1033 k_13_141 rfl rfl rfl (by omega) (Nat.le_of_ble_eq_true rfl) (Nat.le_of_ble_eq_true rfl) (fun _ q => s_X12_thrown q) q (fun v1033 h1033 q => ?_)
  refine r_iload eL_law_1036 rfl ?_
  refine t_icmp_eq eL_law_1038 (t := 1043) (by decide) q (fun q => ?_) (fun q => ?_)
  · refine r_iload eL_law_1043 rfl ?_
    refine t_if_ne eL_law_1045 (t := 1060) (by decide) q (fun q => ?_) (fun q => ?_)
    · refine r_goto (t := 3352) eL_law_1060 (by decide) ?_
      refine r_iinc (v := (8)) (lv' := [_, _, _, _, _, _, _, _]) eL_law_3352 rfl (by decide) rfl ?_
      refine r_goto (t := 23) eL_law_3355 (by decide) ?_
      exact hK23 _ _ _ _ _ _ _ _ _ _ _ (by omega) (by omega) q
    refine r_aload_n eL_law_1048 rfl ?_
    refine r_iconst (v := (0)) eL_law_1049 (by decide) ?_
    refine t_gaL eL_law_1050 q (fun v1050 q => ?_)
    refine r_iload eL_law_1051 rfl ?_
    refine r_i2l eL_law_1053 ?_
    refine t_lc_eq eL_law_1054 eL_law_1055 (t := 1060) (by decide) q (fun q => ?_) (fun q => ?_)
    · refine r_goto (t := 3352) eL_law_1060 (by decide) ?_
      refine r_iinc (v := (8)) (lv' := [_, _, _, _, _, _, _, _]) eL_law_3352 rfl (by decide) rfl ?_
      refine r_goto (t := 23) eL_law_3355 (by decide) ?_
      exact hK23 _ _ _ _ _ _ _ _ _ _ _ (by omega) (by omega) q
    refine r_iconst (v := (0)) eL_law_1058 (by decide) ?_
    exact t_rtZ eL_law_1059 rfl q
  refine r_iconst (v := (0)) eL_law_1041 (by decide) ?_
  exact t_rtZ eL_law_1042 rfl q
theorem sJ_L_law_1007 {E : Ev} {d kc ks : Nat} {Φ : Ou → Hp → Prop} {y0 : Nat} {y1 : Nat} {y2 : Nat} {y3 : Nat} {y4 : Int32} {y5 : Int32} {y6 : Option Value} {y7 : Option Value} {t0 : Nat} {t1 : Int32} {t2 : Int32} {t3 : Int32} {h : Hp} {K23 : Nat → Nat → Nat → Nat → Int32 → Hp → Rs} (hK23 : ∀ (w0 : Nat) (w1 : Nat) (w2 : Nat) (w3 : Nat) (w4 : Int32) (w5 : Option Value) (w6 : Option Value) (w7 : Option Value) (h : Hp) (kc' ks' : Nat), kc ≤ kc' + 0 → ks ≤ ks' + 0 → OK (K23 w0 w1 w2 w3 w4 h) Φ → WE E mL_law (d + 13) 23 [some (.ref w0), some (.ref w1), some (.ref w2), some (.ref w3), some (.int w4), w5, w6, w7] [] h kc' ks' Φ) (q : OK (J_L_law_1007 E K23 y0 y1 y2 y3 y4 y5 t0 t1 t2 t3 h) Φ) : WE E mL_law (d + 13) 1007 [some (.ref y0), some (.ref y1), some (.ref y2), some (.ref y3), some (.int y4), some (.int y5), y6, y7] [.int t3, .int t2, .int t1, .ref t0] h kc ks Φ := by
  refine r_aload_n eL_law_1007 rfl ?_
  refine r_iload eL_law_1008 rfl ?_
  refine r_iconst (v := (4)) eL_law_1010 (by decide) ?_
  refine r_iadd eL_law_1011 ?_
  refine t_gaS eL_law_1012 q (fun v1012 q => ?_)
  refine t_if_eq eL_law_1013 (t := 1020) (by decide) q (fun q => ?_) (fun q => ?_)
  · refine r_iconst (v := (0)) eL_law_1020 (by decide) ?_
    exact sJ_L_law_1021 (fun b0 b1 b2 b3 b4 b5 b6 b7 b8 b9 b10 g1 g2 q => hK23 b0 b1 b2 b3 b4 b5 b6 b7 b8 b9 b10 (by omega) (by omega) q) q
  refine r_iconst (v := (1)) eL_law_1016 (by decide) ?_
  refine r_goto (t := 1021) eL_law_1017 (by decide) ?_
  exact sJ_L_law_1021 (fun b0 b1 b2 b3 b4 b5 b6 b7 b8 b9 b10 g1 g2 q => hK23 b0 b1 b2 b3 b4 b5 b6 b7 b8 b9 b10 (by omega) (by omega) q) q
theorem sJ_L_law_968 {E : Ev} {d kc ks : Nat} {Φ : Ou → Hp → Prop} {y0 : Nat} {y1 : Nat} {y2 : Nat} {y3 : Nat} {y4 : Int32} {y5 : Option Value} {y6 : Option Value} {y7 : Option Value} {t0 : Nat} {t1 : Int32} {t2 : Int32} {t3 : Int32} {t4 : Int32} {h : Hp} {K23 : Nat → Nat → Nat → Nat → Int32 → Hp → Rs} (hc : 3 ≤ kc) (hs : 18 ≤ ks) (hK23 : ∀ (w0 : Nat) (w1 : Nat) (w2 : Nat) (w3 : Nat) (w4 : Int32) (w5 : Option Value) (w6 : Option Value) (w7 : Option Value) (h : Hp) (kc' ks' : Nat), kc ≤ kc' + 3 → ks ≤ ks' + 18 → OK (K23 w0 w1 w2 w3 w4 h) Φ → WE E mL_law (d + 13) 23 [some (.ref w0), some (.ref w1), some (.ref w2), some (.ref w3), some (.int w4), w5, w6, w7] [] h kc' ks' Φ) (q : OK (J_L_law_968 E K23 y0 y1 y2 y3 y4 t0 t1 t2 t3 t4 h) Φ) : WE E mL_law (d + 13) 968 [some (.ref y0), some (.ref y1), some (.ref y2), some (.ref y3), some (.int y4), y5, y6, y7] [.int t4, .int t3, .int t2, .int t1, .ref t0] h kc ks Φ := by
  refine r_aload_n eL_law_968 rfl ?_
  refine r_iload eL_law_969 rfl ?_
  refine r_iconst (v := (5)) eL_law_971 (by decide) ?_
  refine r_iadd eL_law_972 ?_
  refine t_gaS eL_law_973 q (fun v973 q => ?_)
  refine r_aload_n eL_law_974 rfl ?_
  refine t_statIx (As := [_, _, _, _, _, _, _]) (rest := []) (d' := d + 10 + 2) (mc := 3) (ms := 18) eL_law_975 k_13_174 l_13_174 rfl (by omega) (Nat.le_of_ble_eq_true rfl) (Nat.le_of_ble_eq_true rfl) (by omega) (by omega) (fun _ q => s_L_walker q) q (fun _ _ q => q.elim) (fun v975 h975 q => ?_)
  refine r_istore (lv' := [_, _, _, _, _, _, _, _]) eL_law_978 (Nat.le_of_ble_eq_true rfl) rfl ?_
  refine r_aload_n eL_law_980 rfl ?_
  refine r_aload_n eL_law_981 rfl ?_
  refine r_iload eL_law_982 rfl ?_
  refine r_iconst (v := (1)) eL_law_984 (by decide) ?_
  refine r_iadd eL_law_985 ?_
  refine t_gaS eL_law_986 q (fun v986 q => ?_)
  refine r_aload_n eL_law_987 rfl ?_
  refine r_iload eL_law_988 rfl ?_
  refine r_iconst (v := (2)) eL_law_990 (by decide) ?_
  refine r_iadd eL_law_991 ?_
  refine t_gaS eL_law_992 q (fun v992 q => ?_)
  refine r_aload_n eL_law_993 rfl ?_
  refine r_iload eL_law_994 rfl ?_
  refine r_iconst (v := (3)) eL_law_996 (by decide) ?_
  refine r_iadd eL_law_997 ?_
  refine t_gaS eL_law_998 q (fun v998 q => ?_)
  refine t_if_eq eL_law_999 (t := 1006) (by decide) q (fun q => ?_) (fun q => ?_)
  · refine r_iconst (v := (0)) eL_law_1006 (by decide) ?_
    exact sJ_L_law_1007 (fun b0 b1 b2 b3 b4 b5 b6 b7 b8 b9 b10 g1 g2 q => hK23 b0 b1 b2 b3 b4 b5 b6 b7 b8 b9 b10 (by omega) (by omega) q) q
  refine r_iconst (v := (1)) eL_law_1002 (by decide) ?_
  refine r_goto (t := 1007) eL_law_1003 (by decide) ?_
  exact sJ_L_law_1007 (fun b0 b1 b2 b3 b4 b5 b6 b7 b8 b9 b10 g1 g2 q => hK23 b0 b1 b2 b3 b4 b5 b6 b7 b8 b9 b10 (by omega) (by omega) q) q
theorem sJ_L_law_954 {E : Ev} {d kc ks : Nat} {Φ : Ou → Hp → Prop} {y0 : Nat} {y1 : Nat} {y2 : Nat} {y3 : Nat} {y4 : Int32} {y5 : Option Value} {y6 : Option Value} {y7 : Option Value} {t0 : Nat} {t1 : Int32} {t2 : Int32} {t3 : Int32} {h : Hp} {K23 : Nat → Nat → Nat → Nat → Int32 → Hp → Rs} (hc : 3 ≤ kc) (hs : 18 ≤ ks) (hK23 : ∀ (w0 : Nat) (w1 : Nat) (w2 : Nat) (w3 : Nat) (w4 : Int32) (w5 : Option Value) (w6 : Option Value) (w7 : Option Value) (h : Hp) (kc' ks' : Nat), kc ≤ kc' + 3 → ks ≤ ks' + 18 → OK (K23 w0 w1 w2 w3 w4 h) Φ → WE E mL_law (d + 13) 23 [some (.ref w0), some (.ref w1), some (.ref w2), some (.ref w3), some (.int w4), w5, w6, w7] [] h kc' ks' Φ) (q : OK (J_L_law_954 E K23 y0 y1 y2 y3 y4 t0 t1 t2 t3 h) Φ) : WE E mL_law (d + 13) 954 [some (.ref y0), some (.ref y1), some (.ref y2), some (.ref y3), some (.int y4), y5, y6, y7] [.int t3, .int t2, .int t1, .ref t0] h kc ks Φ := by
  refine r_aload_n eL_law_954 rfl ?_
  refine r_iload eL_law_955 rfl ?_
  refine r_iconst (v := (4)) eL_law_957 (by decide) ?_
  refine r_iadd eL_law_958 ?_
  refine t_gaS eL_law_959 q (fun v959 q => ?_)
  refine t_if_eq eL_law_960 (t := 967) (by decide) q (fun q => ?_) (fun q => ?_)
  · refine r_iconst (v := (0)) eL_law_967 (by decide) ?_
    exact sJ_L_law_968 (by omega) (by omega) (fun b0 b1 b2 b3 b4 b5 b6 b7 b8 b9 b10 g1 g2 q => hK23 b0 b1 b2 b3 b4 b5 b6 b7 b8 b9 b10 (by omega) (by omega) q) q
  refine r_iconst (v := (1)) eL_law_963 (by decide) ?_
  refine r_goto (t := 968) eL_law_964 (by decide) ?_
  exact sJ_L_law_968 (by omega) (by omega) (fun b0 b1 b2 b3 b4 b5 b6 b7 b8 b9 b10 g1 g2 q => hK23 b0 b1 b2 b3 b4 b5 b6 b7 b8 b9 b10 (by omega) (by omega) q) q
theorem sJ_L_law_1181 {E : Ev} {d kc ks : Nat} {Φ : Ou → Hp → Prop} {y0 : Nat} {y1 : Nat} {y2 : Nat} {y3 : Nat} {y4 : Int32} {y5 : Int32} {y6 : Int32} {y7 : Option Value} {t0 : Int64} {t1 : Int64} {h : Hp} {K23 : Nat → Nat → Nat → Nat → Int32 → Hp → Rs} (hK23 : ∀ (w0 : Nat) (w1 : Nat) (w2 : Nat) (w3 : Nat) (w4 : Int32) (w5 : Option Value) (w6 : Option Value) (w7 : Option Value) (h : Hp) (kc' ks' : Nat), kc ≤ kc' + 0 → ks ≤ ks' + 0 → OK (K23 w0 w1 w2 w3 w4 h) Φ → WE E mL_law (d + 13) 23 [some (.ref w0), some (.ref w1), some (.ref w2), some (.ref w3), some (.int w4), w5, w6, w7] [] h kc' ks' Φ) (q : OK (J_L_law_1181 E K23 y0 y1 y2 y3 y4 t0 t1 h) Φ) : WE E mL_law (d + 13) 1181 [some (.ref y0), some (.ref y1), some (.ref y2), some (.ref y3), some (.int y4), some (.int y5), some (.int y6), y7] [.long t1, .long t0] h kc ks Φ := by
  refine t_lc_eq eL_law_1181 eL_law_1182 (t := 1187) (by decide) q (fun q => ?_) (fun q => ?_)
  · refine r_goto (t := 3352) eL_law_1187 (by decide) ?_
    refine r_iinc (v := (8)) (lv' := [_, _, _, _, _, _, _, _]) eL_law_3352 rfl (by decide) rfl ?_
    refine r_goto (t := 23) eL_law_3355 (by decide) ?_
    exact hK23 _ _ _ _ _ _ _ _ _ _ _ (by omega) (by omega) q
  refine r_iconst (v := (0)) eL_law_1185 (by decide) ?_
  exact t_rtZ eL_law_1186 rfl q
theorem sJ_L_law_1147 {E : Ev} {d kc ks : Nat} {Φ : Ou → Hp → Prop} {y0 : Nat} {y1 : Nat} {y2 : Nat} {y3 : Nat} {y4 : Int32} {y5 : Int32} {y6 : Option Value} {y7 : Option Value} {t0 : Nat} {t1 : Int32} {t2 : Int32} {t3 : Int32} {t4 : Int32} {t5 : Int32} {h : Hp} {K23 : Nat → Nat → Nat → Nat → Int32 → Hp → Rs} (hK23 : ∀ (w0 : Nat) (w1 : Nat) (w2 : Nat) (w3 : Nat) (w4 : Int32) (w5 : Option Value) (w6 : Option Value) (w7 : Option Value) (h : Hp) (kc' ks' : Nat), kc ≤ kc' + 0 → ks ≤ ks' + 0 → OK (K23 w0 w1 w2 w3 w4 h) Φ → WE E mL_law (d + 13) 23 [some (.ref w0), some (.ref w1), some (.ref w2), some (.ref w3), some (.int w4), w5, w6, w7] [] h kc' ks' Φ) (q : OK (J_L_law_1147 E K23 y0 y1 y2 y3 y4 y5 t0 t1 t2 t3 t4 t5 h) Φ) : WE E mL_law (d + 13) 1147 [some (.ref y0), some (.ref y1), some (.ref y2), some (.ref y3), some (.int y4), some (.int y5), y6, y7] [.int t5, .int t4, .int t3, .int t2, .int t1, .ref t0] h kc ks Φ := by
  refine t_virtI (As := [_, _, _, _, _]) (rest := []) (d' := d + 8 + 4) (ci := 12) eL_law_1147 k_13_181 rfl rfl rfl (by omega) (Nat.le_of_ble_eq_true rfl) (Nat.le_of_ble_eq_true rfl) (fun _ q => s_X12_stands q) q (fun v1147 h1147 q => ?_)
  refine r_istore (lv' := [_, _, _, _, _, _, _, _]) eL_law_1150 (Nat.le_of_ble_eq_true rfl) rfl ?_
  refine r_aload_n eL_law_1152 rfl ?_
  refine t_virtI (As := []) (rest := []) (d' := d + 12 + 0) (ci := 12) eL_law_1153 k_13_141 rfl rfl rfl (by omega) (Nat.le_of_ble_eq_true rfl) (Nat.le_of_ble_eq_true rfl) (fun _ q => s_X12_thrown q) q (fun v1153 h1153 q => ?_)
  refine r_iload eL_law_1156 rfl ?_
  refine t_icmp_eq eL_law_1158 (t := 1163) (by decide) q (fun q => ?_) (fun q => ?_)
  · refine r_iload eL_law_1163 rfl ?_
    refine t_if_ne eL_law_1165 (t := 1187) (by decide) q (fun q => ?_) (fun q => ?_)
    · refine r_goto (t := 3352) eL_law_1187 (by decide) ?_
      refine r_iinc (v := (8)) (lv' := [_, _, _, _, _, _, _, _]) eL_law_3352 rfl (by decide) rfl ?_
      refine r_goto (t := 23) eL_law_3355 (by decide) ?_
      exact hK23 _ _ _ _ _ _ _ _ _ _ _ (by omega) (by omega) q
    refine r_aload_n eL_law_1168 rfl ?_
    refine r_iconst (v := (0)) eL_law_1169 (by decide) ?_
    refine t_gaL eL_law_1170 q (fun v1170 q => ?_)
    refine r_iload eL_law_1171 rfl ?_
    refine t_if_eq eL_law_1173 (t := 1180) (by decide) q (fun q => ?_) (fun q => ?_)
    · refine r_lconst (v := 0) eL_law_1180 rfl ?_
      exact sJ_L_law_1181 (fun b0 b1 b2 b3 b4 b5 b6 b7 b8 b9 b10 g1 g2 q => hK23 b0 b1 b2 b3 b4 b5 b6 b7 b8 b9 b10 (by omega) (by omega) q) q
    refine r_lconst (v := 1) eL_law_1176 rfl ?_
    refine r_goto (t := 1181) eL_law_1177 (by decide) ?_
    exact sJ_L_law_1181 (fun b0 b1 b2 b3 b4 b5 b6 b7 b8 b9 b10 g1 g2 q => hK23 b0 b1 b2 b3 b4 b5 b6 b7 b8 b9 b10 (by omega) (by omega) q) q
  refine r_iconst (v := (0)) eL_law_1161 (by decide) ?_
  exact t_rtZ eL_law_1162 rfl q
theorem sJ_L_law_1102 {E : Ev} {d kc ks : Nat} {Φ : Ou → Hp → Prop} {y0 : Nat} {y1 : Nat} {y2 : Nat} {y3 : Nat} {y4 : Int32} {y5 : Option Value} {y6 : Option Value} {y7 : Option Value} {t0 : Nat} {t1 : Int32} {t2 : Int32} {t3 : Int32} {t4 : Int32} {t5 : Int32} {h : Hp} {K23 : Nat → Nat → Nat → Nat → Int32 → Hp → Rs} (hc : 4 ≤ kc) (hs : 24 ≤ ks) (hK23 : ∀ (w0 : Nat) (w1 : Nat) (w2 : Nat) (w3 : Nat) (w4 : Int32) (w5 : Option Value) (w6 : Option Value) (w7 : Option Value) (h : Hp) (kc' ks' : Nat), kc ≤ kc' + 4 → ks ≤ ks' + 24 → OK (K23 w0 w1 w2 w3 w4 h) Φ → WE E mL_law (d + 13) 23 [some (.ref w0), some (.ref w1), some (.ref w2), some (.ref w3), some (.int w4), w5, w6, w7] [] h kc' ks' Φ) (q : OK (J_L_law_1102 E K23 y0 y1 y2 y3 y4 t0 t1 t2 t3 t4 t5 h) Φ) : WE E mL_law (d + 13) 1102 [some (.ref y0), some (.ref y1), some (.ref y2), some (.ref y3), some (.int y4), y5, y6, y7] [.int t5, .int t4, .int t3, .int t2, .int t1, .ref t0] h kc ks Φ := by
  refine r_aload_n eL_law_1102 rfl ?_
  refine t_statIx (As := [_, _, _, _, _, _, _]) (rest := []) (d' := d + 7 + 5) (mc := 4) (ms := 24) eL_law_1103 k_13_178 l_13_178 rfl (by omega) (Nat.le_of_ble_eq_true rfl) (Nat.le_of_ble_eq_true rfl) (by omega) (by omega) (fun _ q => s_L_stands q) q (fun _ _ q => q.elim) (fun v1103 h1103 q => ?_)
  refine r_istore (lv' := [_, _, _, _, _, _, _, _]) eL_law_1106 (Nat.le_of_ble_eq_true rfl) rfl ?_
  refine r_aload_n eL_law_1108 rfl ?_
  refine r_aload_n eL_law_1109 rfl ?_
  refine r_iload eL_law_1110 rfl ?_
  refine r_iconst (v := (1)) eL_law_1112 (by decide) ?_
  refine r_iadd eL_law_1113 ?_
  refine t_gaS eL_law_1114 q (fun v1114 q => ?_)
  refine r_aload_n eL_law_1115 rfl ?_
  refine r_iload eL_law_1116 rfl ?_
  refine r_iconst (v := (2)) eL_law_1118 (by decide) ?_
  refine r_iadd eL_law_1119 ?_
  refine t_gaS eL_law_1120 q (fun v1120 q => ?_)
  refine r_aload_n eL_law_1121 rfl ?_
  refine r_iload eL_law_1122 rfl ?_
  refine r_iconst (v := (3)) eL_law_1124 (by decide) ?_
  refine r_iadd eL_law_1125 ?_
  refine t_gaS eL_law_1126 q (fun v1126 q => ?_)
  refine r_aload_n eL_law_1127 rfl ?_
  refine r_iload eL_law_1128 rfl ?_
  refine r_iconst (v := (4)) eL_law_1130 (by decide) ?_
  refine r_iadd eL_law_1131 ?_
  refine t_gaS eL_law_1132 q (fun v1132 q => ?_)
  refine r_aload_n eL_law_1133 rfl ?_
  refine r_iload eL_law_1134 rfl ?_
  refine r_iconst (v := (5)) eL_law_1136 (by decide) ?_
  refine r_iadd eL_law_1137 ?_
  refine t_gaS eL_law_1138 q (fun v1138 q => ?_)
  refine t_if_eq eL_law_1139 (t := 1146) (by decide) q (fun q => ?_) (fun q => ?_)
  · refine r_iconst (v := (0)) eL_law_1146 (by decide) ?_
    exact sJ_L_law_1147 (fun b0 b1 b2 b3 b4 b5 b6 b7 b8 b9 b10 g1 g2 q => hK23 b0 b1 b2 b3 b4 b5 b6 b7 b8 b9 b10 (by omega) (by omega) q) q
  refine r_iconst (v := (1)) eL_law_1142 (by decide) ?_
  refine r_goto (t := 1147) eL_law_1143 (by decide) ?_
  exact sJ_L_law_1147 (fun b0 b1 b2 b3 b4 b5 b6 b7 b8 b9 b10 g1 g2 q => hK23 b0 b1 b2 b3 b4 b5 b6 b7 b8 b9 b10 (by omega) (by omega) q) q
theorem sJ_L_law_1920 {E : Ev} {d kc ks : Nat} {Φ : Ou → Hp → Prop} {y0 : Nat} {y1 : Nat} {y2 : Nat} {y3 : Nat} {y4 : Int32} {y5 : Int32} {y6 : Int32} {y7 : Option Value} {t0 : Int64} {t1 : Int64} {h : Hp} {K23 : Nat → Nat → Nat → Nat → Int32 → Hp → Rs} (hK23 : ∀ (w0 : Nat) (w1 : Nat) (w2 : Nat) (w3 : Nat) (w4 : Int32) (w5 : Option Value) (w6 : Option Value) (w7 : Option Value) (h : Hp) (kc' ks' : Nat), kc ≤ kc' + 0 → ks ≤ ks' + 0 → OK (K23 w0 w1 w2 w3 w4 h) Φ → WE E mL_law (d + 13) 23 [some (.ref w0), some (.ref w1), some (.ref w2), some (.ref w3), some (.int w4), w5, w6, w7] [] h kc' ks' Φ) (q : OK (J_L_law_1920 E K23 y0 y1 y2 y3 y4 t0 t1 h) Φ) : WE E mL_law (d + 13) 1920 [some (.ref y0), some (.ref y1), some (.ref y2), some (.ref y3), some (.int y4), some (.int y5), some (.int y6), y7] [.long t1, .long t0] h kc ks Φ := by
  refine t_lc_eq eL_law_1920 eL_law_1921 (t := 1926) (by decide) q (fun q => ?_) (fun q => ?_)
  · refine r_goto (t := 3352) eL_law_1926 (by decide) ?_
    refine r_iinc (v := (8)) (lv' := [_, _, _, _, _, _, _, _]) eL_law_3352 rfl (by decide) rfl ?_
    refine r_goto (t := 23) eL_law_3355 (by decide) ?_
    exact hK23 _ _ _ _ _ _ _ _ _ _ _ (by omega) (by omega) q
  refine r_iconst (v := (0)) eL_law_1924 (by decide) ?_
  exact t_rtZ eL_law_1925 rfl q
theorem sJ_L_law_2209 {E : Ev} {d kc ks : Nat} {Φ : Ou → Hp → Prop} {y0 : Nat} {y1 : Nat} {y2 : Nat} {y3 : Nat} {y4 : Int32} {y5 : Int32} {y6 : Option Value} {y7 : Option Value} {t0 : Nat} {t1 : Int32} {t2 : Int32} {t3 : Int32} {t4 : Int32} {t5 : Int32} {h : Hp} {K23 : Nat → Nat → Nat → Nat → Int32 → Hp → Rs} (hK23 : ∀ (w0 : Nat) (w1 : Nat) (w2 : Nat) (w3 : Nat) (w4 : Int32) (w5 : Option Value) (w6 : Option Value) (w7 : Option Value) (h : Hp) (kc' ks' : Nat), kc ≤ kc' + 0 → ks ≤ ks' + 0 → OK (K23 w0 w1 w2 w3 w4 h) Φ → WE E mL_law (d + 13) 23 [some (.ref w0), some (.ref w1), some (.ref w2), some (.ref w3), some (.int w4), w5, w6, w7] [] h kc' ks' Φ) (q : OK (J_L_law_2209 E K23 y0 y1 y2 y3 y4 y5 t0 t1 t2 t3 t4 t5 h) Φ) : WE E mL_law (d + 13) 2209 [some (.ref y0), some (.ref y1), some (.ref y2), some (.ref y3), some (.int y4), some (.int y5), y6, y7] [.int t5, .int t4, .int t3, .int t2, .int t1, .ref t0] h kc ks Φ := by
  refine t_virtI (As := [_, _, _, _, _]) (rest := []) (d' := d + 3 + 9) (ci := 12) eL_law_2209 k_13_222 rfl rfl rfl (by omega) (Nat.le_of_ble_eq_true rfl) (Nat.le_of_ble_eq_true rfl) (fun _ q => s_X12_hangs q) q (fun v2209 h2209 q => ?_)
  refine r_istore (lv' := [_, _, _, _, _, _, _, _]) eL_law_2212 (Nat.le_of_ble_eq_true rfl) rfl ?_
  refine r_aload_n eL_law_2214 rfl ?_
  refine t_virtI (As := []) (rest := []) (d' := d + 12 + 0) (ci := 12) eL_law_2215 k_13_141 rfl rfl rfl (by omega) (Nat.le_of_ble_eq_true rfl) (Nat.le_of_ble_eq_true rfl) (fun _ q => s_X12_thrown q) q (fun v2215 h2215 q => ?_)
  refine r_iload eL_law_2218 rfl ?_
  refine t_icmp_eq eL_law_2220 (t := 2225) (by decide) q (fun q => ?_) (fun q => ?_)
  · refine r_iload eL_law_2225 rfl ?_
    refine t_if_ne eL_law_2227 (t := 2242) (by decide) q (fun q => ?_) (fun q => ?_)
    · refine r_goto (t := 3352) eL_law_2242 (by decide) ?_
      refine r_iinc (v := (8)) (lv' := [_, _, _, _, _, _, _, _]) eL_law_3352 rfl (by decide) rfl ?_
      refine r_goto (t := 23) eL_law_3355 (by decide) ?_
      exact hK23 _ _ _ _ _ _ _ _ _ _ _ (by omega) (by omega) q
    refine r_aload_n eL_law_2230 rfl ?_
    refine r_iconst (v := (0)) eL_law_2231 (by decide) ?_
    refine t_gaL eL_law_2232 q (fun v2232 q => ?_)
    refine r_iload eL_law_2233 rfl ?_
    refine r_i2l eL_law_2235 ?_
    refine t_lc_eq eL_law_2236 eL_law_2237 (t := 2242) (by decide) q (fun q => ?_) (fun q => ?_)
    · refine r_goto (t := 3352) eL_law_2242 (by decide) ?_
      refine r_iinc (v := (8)) (lv' := [_, _, _, _, _, _, _, _]) eL_law_3352 rfl (by decide) rfl ?_
      refine r_goto (t := 23) eL_law_3355 (by decide) ?_
      exact hK23 _ _ _ _ _ _ _ _ _ _ _ (by omega) (by omega) q
    refine r_iconst (v := (0)) eL_law_2240 (by decide) ?_
    exact t_rtZ eL_law_2241 rfl q
  refine r_iconst (v := (0)) eL_law_2223 (by decide) ?_
  exact t_rtZ eL_law_2224 rfl q
theorem sJ_L_law_2164 {E : Ev} {d kc ks : Nat} {Φ : Ou → Hp → Prop} {y0 : Nat} {y1 : Nat} {y2 : Nat} {y3 : Nat} {y4 : Int32} {y5 : Option Value} {y6 : Option Value} {y7 : Option Value} {t0 : Nat} {t1 : Int32} {t2 : Int32} {t3 : Int32} {t4 : Int32} {t5 : Int32} {h : Hp} {K23 : Nat → Nat → Nat → Nat → Int32 → Hp → Rs} (hc : 4 ≤ kc) (hs : 24 ≤ ks) (hK23 : ∀ (w0 : Nat) (w1 : Nat) (w2 : Nat) (w3 : Nat) (w4 : Int32) (w5 : Option Value) (w6 : Option Value) (w7 : Option Value) (h : Hp) (kc' ks' : Nat), kc ≤ kc' + 4 → ks ≤ ks' + 24 → OK (K23 w0 w1 w2 w3 w4 h) Φ → WE E mL_law (d + 13) 23 [some (.ref w0), some (.ref w1), some (.ref w2), some (.ref w3), some (.int w4), w5, w6, w7] [] h kc' ks' Φ) (q : OK (J_L_law_2164 E K23 y0 y1 y2 y3 y4 t0 t1 t2 t3 t4 t5 h) Φ) : WE E mL_law (d + 13) 2164 [some (.ref y0), some (.ref y1), some (.ref y2), some (.ref y3), some (.int y4), y5, y6, y7] [.int t5, .int t4, .int t3, .int t2, .int t1, .ref t0] h kc ks Φ := by
  refine r_aload_n eL_law_2164 rfl ?_
  refine t_statIx (As := [_, _, _, _, _, _, _]) (rest := []) (d' := d + 3 + 9) (mc := 4) (ms := 24) eL_law_2165 k_13_220 l_13_220 rfl (by omega) (Nat.le_of_ble_eq_true rfl) (Nat.le_of_ble_eq_true rfl) (by omega) (by omega) (fun _ q => s_L_hangs q) q (fun _ _ q => q.elim) (fun v2165 h2165 q => ?_)
  refine r_istore (lv' := [_, _, _, _, _, _, _, _]) eL_law_2168 (Nat.le_of_ble_eq_true rfl) rfl ?_
  refine r_aload_n eL_law_2170 rfl ?_
  refine r_aload_n eL_law_2171 rfl ?_
  refine r_iload eL_law_2172 rfl ?_
  refine r_iconst (v := (1)) eL_law_2174 (by decide) ?_
  refine r_iadd eL_law_2175 ?_
  refine t_gaS eL_law_2176 q (fun v2176 q => ?_)
  refine r_aload_n eL_law_2177 rfl ?_
  refine r_iload eL_law_2178 rfl ?_
  refine r_iconst (v := (2)) eL_law_2180 (by decide) ?_
  refine r_iadd eL_law_2181 ?_
  refine t_gaS eL_law_2182 q (fun v2182 q => ?_)
  refine r_aload_n eL_law_2183 rfl ?_
  refine r_iload eL_law_2184 rfl ?_
  refine r_iconst (v := (3)) eL_law_2186 (by decide) ?_
  refine r_iadd eL_law_2187 ?_
  refine t_gaS eL_law_2188 q (fun v2188 q => ?_)
  refine r_aload_n eL_law_2189 rfl ?_
  refine r_iload eL_law_2190 rfl ?_
  refine r_iconst (v := (4)) eL_law_2192 (by decide) ?_
  refine r_iadd eL_law_2193 ?_
  refine t_gaS eL_law_2194 q (fun v2194 q => ?_)
  refine r_aload_n eL_law_2195 rfl ?_
  refine r_iload eL_law_2196 rfl ?_
  refine r_iconst (v := (5)) eL_law_2198 (by decide) ?_
  refine r_iadd eL_law_2199 ?_
  refine t_gaS eL_law_2200 q (fun v2200 q => ?_)
  refine t_if_eq eL_law_2201 (t := 2208) (by decide) q (fun q => ?_) (fun q => ?_)
  · refine r_iconst (v := (0)) eL_law_2208 (by decide) ?_
    exact sJ_L_law_2209 (fun b0 b1 b2 b3 b4 b5 b6 b7 b8 b9 b10 g1 g2 q => hK23 b0 b1 b2 b3 b4 b5 b6 b7 b8 b9 b10 (by omega) (by omega) q) q
  refine r_iconst (v := (1)) eL_law_2204 (by decide) ?_
  refine r_goto (t := 2209) eL_law_2205 (by decide) ?_
  exact sJ_L_law_2209 (fun b0 b1 b2 b3 b4 b5 b6 b7 b8 b9 b10 g1 g2 q => hK23 b0 b1 b2 b3 b4 b5 b6 b7 b8 b9 b10 (by omega) (by omega) q) q
theorem sJ_L_law_2581 {E : Ev} {d kc ks : Nat} {Φ : Ou → Hp → Prop} {y0 : Nat} {y1 : Nat} {y2 : Nat} {y3 : Nat} {y4 : Int32} {y5 : Int32} {y6 : Option Value} {y7 : Option Value} {t0 : Nat} {t1 : Int32} {t2 : Int32} {t3 : Int32} {t4 : Int32} {t5 : Int32} {t6 : Int32} {t7 : Int32} {h : Hp} {K23 : Nat → Nat → Nat → Nat → Int32 → Hp → Rs} (hK23 : ∀ (w0 : Nat) (w1 : Nat) (w2 : Nat) (w3 : Nat) (w4 : Int32) (w5 : Option Value) (w6 : Option Value) (w7 : Option Value) (h : Hp) (kc' ks' : Nat), kc ≤ kc' + 0 → ks ≤ ks' + 0 → OK (K23 w0 w1 w2 w3 w4 h) Φ → WE E mL_law (d + 13) 23 [some (.ref w0), some (.ref w1), some (.ref w2), some (.ref w3), some (.int w4), w5, w6, w7] [] h kc' ks' Φ) (q : OK (J_L_law_2581 E K23 y0 y1 y2 y3 y4 y5 t0 t1 t2 t3 t4 t5 t6 t7 h) Φ) : WE E mL_law (d + 13) 2581 [some (.ref y0), some (.ref y1), some (.ref y2), some (.ref y3), some (.int y4), some (.int y5), y6, y7] [.int t7, .int t6, .int t5, .int t4, .int t3, .int t2, .int t1, .ref t0] h kc ks Φ := by
  refine t_virtI (As := [_, _, _, _, _, _, _]) (rest := []) (d' := d + 3 + 9) (ci := 12) eL_law_2581 k_13_233 rfl rfl rfl (by omega) (Nat.le_of_ble_eq_true rfl) (Nat.le_of_ble_eq_true rfl) (fun _ q => s_X12_ask q) q (fun v2581 h2581 q => ?_)
  refine r_istore (lv' := [_, _, _, _, _, _, _, _]) eL_law_2584 (Nat.le_of_ble_eq_true rfl) rfl ?_
  refine r_aload_n eL_law_2586 rfl ?_
  refine t_virtI (As := []) (rest := []) (d' := d + 12 + 0) (ci := 12) eL_law_2587 k_13_141 rfl rfl rfl (by omega) (Nat.le_of_ble_eq_true rfl) (Nat.le_of_ble_eq_true rfl) (fun _ q => s_X12_thrown q) q (fun v2587 h2587 q => ?_)
  refine r_iload eL_law_2590 rfl ?_
  refine t_icmp_eq eL_law_2592 (t := 2597) (by decide) q (fun q => ?_) (fun q => ?_)
  · refine r_iload eL_law_2597 rfl ?_
    refine t_if_ne eL_law_2599 (t := 2614) (by decide) q (fun q => ?_) (fun q => ?_)
    · refine r_goto (t := 3352) eL_law_2614 (by decide) ?_
      refine r_iinc (v := (8)) (lv' := [_, _, _, _, _, _, _, _]) eL_law_3352 rfl (by decide) rfl ?_
      refine r_goto (t := 23) eL_law_3355 (by decide) ?_
      exact hK23 _ _ _ _ _ _ _ _ _ _ _ (by omega) (by omega) q
    refine r_aload_n eL_law_2602 rfl ?_
    refine r_iconst (v := (0)) eL_law_2603 (by decide) ?_
    refine t_gaL eL_law_2604 q (fun v2604 q => ?_)
    refine r_iload eL_law_2605 rfl ?_
    refine r_i2l eL_law_2607 ?_
    refine t_lc_eq eL_law_2608 eL_law_2609 (t := 2614) (by decide) q (fun q => ?_) (fun q => ?_)
    · refine r_goto (t := 3352) eL_law_2614 (by decide) ?_
      refine r_iinc (v := (8)) (lv' := [_, _, _, _, _, _, _, _]) eL_law_3352 rfl (by decide) rfl ?_
      refine r_goto (t := 23) eL_law_3355 (by decide) ?_
      exact hK23 _ _ _ _ _ _ _ _ _ _ _ (by omega) (by omega) q
    refine r_iconst (v := (0)) eL_law_2612 (by decide) ?_
    exact t_rtZ eL_law_2613 rfl q
  refine r_iconst (v := (0)) eL_law_2595 (by decide) ?_
  exact t_rtZ eL_law_2596 rfl q
theorem sJ_L_law_2522 {E : Ev} {d kc ks : Nat} {Φ : Ou → Hp → Prop} {y0 : Nat} {y1 : Nat} {y2 : Nat} {y3 : Nat} {y4 : Int32} {y5 : Option Value} {y6 : Option Value} {y7 : Option Value} {t0 : Nat} {t1 : Int32} {t2 : Int32} {t3 : Int32} {t4 : Int32} {t5 : Int32} {t6 : Int32} {t7 : Int32} {h : Hp} {K23 : Nat → Nat → Nat → Nat → Int32 → Hp → Rs} (hc : 6 ≤ kc) (hs : 36 ≤ ks) (hK23 : ∀ (w0 : Nat) (w1 : Nat) (w2 : Nat) (w3 : Nat) (w4 : Int32) (w5 : Option Value) (w6 : Option Value) (w7 : Option Value) (h : Hp) (kc' ks' : Nat), kc ≤ kc' + 6 → ks ≤ ks' + 36 → OK (K23 w0 w1 w2 w3 w4 h) Φ → WE E mL_law (d + 13) 23 [some (.ref w0), some (.ref w1), some (.ref w2), some (.ref w3), some (.int w4), w5, w6, w7] [] h kc' ks' Φ) (q : OK (J_L_law_2522 E K23 y0 y1 y2 y3 y4 t0 t1 t2 t3 t4 t5 t6 t7 h) Φ) : WE E mL_law (d + 13) 2522 [some (.ref y0), some (.ref y1), some (.ref y2), some (.ref y3), some (.int y4), y5, y6, y7] [.int t7, .int t6, .int t5, .int t4, .int t3, .int t2, .int t1, .ref t0] h kc ks Φ := by
  refine r_aload_n eL_law_2522 rfl ?_
  refine t_statIx (As := [_, _, _, _, _, _, _, _, _]) (rest := []) (d' := d + 3 + 9) (mc := 6) (ms := 36) eL_law_2523 k_13_230 l_13_230 rfl (by omega) (Nat.le_of_ble_eq_true rfl) (Nat.le_of_ble_eq_true rfl) (by omega) (by omega) (fun _ q => s_L_ask q) q (fun _ _ q => q.elim) (fun v2523 h2523 q => ?_)
  refine r_istore (lv' := [_, _, _, _, _, _, _, _]) eL_law_2526 (Nat.le_of_ble_eq_true rfl) rfl ?_
  refine r_aload_n eL_law_2528 rfl ?_
  refine r_aload_n eL_law_2529 rfl ?_
  refine r_iload eL_law_2530 rfl ?_
  refine r_iconst (v := (1)) eL_law_2532 (by decide) ?_
  refine r_iadd eL_law_2533 ?_
  refine t_gaS eL_law_2534 q (fun v2534 q => ?_)
  refine r_aload_n eL_law_2535 rfl ?_
  refine r_iload eL_law_2536 rfl ?_
  refine r_iconst (v := (2)) eL_law_2538 (by decide) ?_
  refine r_iadd eL_law_2539 ?_
  refine t_gaS eL_law_2540 q (fun v2540 q => ?_)
  refine r_aload_n eL_law_2541 rfl ?_
  refine r_iload eL_law_2542 rfl ?_
  refine r_iconst (v := (3)) eL_law_2544 (by decide) ?_
  refine r_iadd eL_law_2545 ?_
  refine t_gaS eL_law_2546 q (fun v2546 q => ?_)
  refine r_aload_n eL_law_2547 rfl ?_
  refine r_iload eL_law_2548 rfl ?_
  refine r_iconst (v := (4)) eL_law_2550 (by decide) ?_
  refine r_iadd eL_law_2551 ?_
  refine t_gaS eL_law_2552 q (fun v2552 q => ?_)
  refine r_aload_n eL_law_2553 rfl ?_
  refine r_iload eL_law_2554 rfl ?_
  refine r_iconst (v := (5)) eL_law_2556 (by decide) ?_
  refine r_iadd eL_law_2557 ?_
  refine t_gaS eL_law_2558 q (fun v2558 q => ?_)
  refine r_aload_n eL_law_2559 rfl ?_
  refine r_iload eL_law_2560 rfl ?_
  refine r_bipush (v := (6)) eL_law_2562 (by decide) ?_
  refine r_iadd eL_law_2564 ?_
  refine t_gaS eL_law_2565 q (fun v2565 q => ?_)
  refine r_aload_n eL_law_2566 rfl ?_
  refine r_iload eL_law_2567 rfl ?_
  refine r_bipush (v := (7)) eL_law_2569 (by decide) ?_
  refine r_iadd eL_law_2571 ?_
  refine t_gaS eL_law_2572 q (fun v2572 q => ?_)
  refine t_if_eq eL_law_2573 (t := 2580) (by decide) q (fun q => ?_) (fun q => ?_)
  · refine r_iconst (v := (0)) eL_law_2580 (by decide) ?_
    exact sJ_L_law_2581 (fun b0 b1 b2 b3 b4 b5 b6 b7 b8 b9 b10 g1 g2 q => hK23 b0 b1 b2 b3 b4 b5 b6 b7 b8 b9 b10 (by omega) (by omega) q) q
  refine r_iconst (v := (1)) eL_law_2576 (by decide) ?_
  refine r_goto (t := 2581) eL_law_2577 (by decide) ?_
  exact sJ_L_law_2581 (fun b0 b1 b2 b3 b4 b5 b6 b7 b8 b9 b10 g1 g2 q => hK23 b0 b1 b2 b3 b4 b5 b6 b7 b8 b9 b10 (by omega) (by omega) q) q
theorem sJ_L_law_2968 {E : Ev} {d kc ks : Nat} {Φ : Ou → Hp → Prop} {y0 : Nat} {y1 : Nat} {y2 : Nat} {y3 : Nat} {y4 : Int32} {y5 : Int32} {y6 : Option Value} {y7 : Option Value} {t0 : Nat} {t1 : Int32} {t2 : Int32} {h : Hp} {K23 : Nat → Nat → Nat → Nat → Int32 → Hp → Rs} (hK23 : ∀ (w0 : Nat) (w1 : Nat) (w2 : Nat) (w3 : Nat) (w4 : Int32) (w5 : Option Value) (w6 : Option Value) (w7 : Option Value) (h : Hp) (kc' ks' : Nat), kc ≤ kc' + 0 → ks ≤ ks' + 0 → OK (K23 w0 w1 w2 w3 w4 h) Φ → WE E mL_law (d + 13) 23 [some (.ref w0), some (.ref w1), some (.ref w2), some (.ref w3), some (.int w4), w5, w6, w7] [] h kc' ks' Φ) (q : OK (J_L_law_2968 E K23 y0 y1 y2 y3 y4 y5 t0 t1 t2 h) Φ) : WE E mL_law (d + 13) 2968 [some (.ref y0), some (.ref y1), some (.ref y2), some (.ref y3), some (.int y4), some (.int y5), y6, y7] [.int t2, .int t1, .ref t0] h kc ks Φ := by
  refine t_virtI (As := [_, _]) (rest := []) (d' := d + 10 + 2) (ci := 12) eL_law_2968 k_13_250 rfl rfl rfl (by omega) (Nat.le_of_ble_eq_true rfl) (Nat.le_of_ble_eq_true rfl) (fun _ q => s_X12_told q) q (fun v2968 h2968 q => ?_)
  refine r_istore (lv' := [_, _, _, _, _, _, _, _]) eL_law_2971 (Nat.le_of_ble_eq_true rfl) rfl ?_
  refine r_aload_n eL_law_2973 rfl ?_
  refine t_virtI (As := []) (rest := []) (d' := d + 12 + 0) (ci := 12) eL_law_2974 k_13_141 rfl rfl rfl (by omega) (Nat.le_of_ble_eq_true rfl) (Nat.le_of_ble_eq_true rfl) (fun _ q => s_X12_thrown q) q (fun v2974 h2974 q => ?_)
  refine r_iload eL_law_2977 rfl ?_
  refine t_icmp_eq eL_law_2979 (t := 2984) (by decide) q (fun q => ?_) (fun q => ?_)
  · refine r_iload eL_law_2984 rfl ?_
    refine t_if_ne eL_law_2986 (t := 3001) (by decide) q (fun q => ?_) (fun q => ?_)
    · refine r_goto (t := 3352) eL_law_3001 (by decide) ?_
      refine r_iinc (v := (8)) (lv' := [_, _, _, _, _, _, _, _]) eL_law_3352 rfl (by decide) rfl ?_
      refine r_goto (t := 23) eL_law_3355 (by decide) ?_
      exact hK23 _ _ _ _ _ _ _ _ _ _ _ (by omega) (by omega) q
    refine r_aload_n eL_law_2989 rfl ?_
    refine r_iconst (v := (0)) eL_law_2990 (by decide) ?_
    refine t_gaL eL_law_2991 q (fun v2991 q => ?_)
    refine r_iload eL_law_2992 rfl ?_
    refine r_i2l eL_law_2994 ?_
    refine t_lc_eq eL_law_2995 eL_law_2996 (t := 3001) (by decide) q (fun q => ?_) (fun q => ?_)
    · refine r_goto (t := 3352) eL_law_3001 (by decide) ?_
      refine r_iinc (v := (8)) (lv' := [_, _, _, _, _, _, _, _]) eL_law_3352 rfl (by decide) rfl ?_
      refine r_goto (t := 23) eL_law_3355 (by decide) ?_
      exact hK23 _ _ _ _ _ _ _ _ _ _ _ (by omega) (by omega) q
    refine r_iconst (v := (0)) eL_law_2999 (by decide) ?_
    exact t_rtZ eL_law_3000 rfl q
  refine r_iconst (v := (0)) eL_law_2982 (by decide) ?_
  exact t_rtZ eL_law_2983 rfl q
theorem sJ_L_law_2941 {E : Ev} {d kc ks : Nat} {Φ : Ou → Hp → Prop} {y0 : Nat} {y1 : Nat} {y2 : Nat} {y3 : Nat} {y4 : Int32} {y5 : Option Value} {y6 : Option Value} {y7 : Option Value} {t0 : Nat} {t1 : Int32} {t2 : Int32} {h : Hp} {K23 : Nat → Nat → Nat → Nat → Int32 → Hp → Rs} (hc : 1 ≤ kc) (hs : 6 ≤ ks) (hK23 : ∀ (w0 : Nat) (w1 : Nat) (w2 : Nat) (w3 : Nat) (w4 : Int32) (w5 : Option Value) (w6 : Option Value) (w7 : Option Value) (h : Hp) (kc' ks' : Nat), kc ≤ kc' + 1 → ks ≤ ks' + 6 → OK (K23 w0 w1 w2 w3 w4 h) Φ → WE E mL_law (d + 13) 23 [some (.ref w0), some (.ref w1), some (.ref w2), some (.ref w3), some (.int w4), w5, w6, w7] [] h kc' ks' Φ) (q : OK (J_L_law_2941 E K23 y0 y1 y2 y3 y4 t0 t1 t2 h) Φ) : WE E mL_law (d + 13) 2941 [some (.ref y0), some (.ref y1), some (.ref y2), some (.ref y3), some (.int y4), y5, y6, y7] [.int t2, .int t1, .ref t0] h kc ks Φ := by
  refine r_aload_n eL_law_2941 rfl ?_
  refine t_statIx (As := [_, _, _, _]) (rest := []) (d' := d + 10 + 2) (mc := 1) (ms := 6) eL_law_2942 k_13_247 l_13_247 rfl (by omega) (Nat.le_of_ble_eq_true rfl) (Nat.le_of_ble_eq_true rfl) (by omega) (by omega) (fun _ q => s_L_told q) q (fun _ _ q => q.elim) (fun v2942 h2942 q => ?_)
  refine r_istore (lv' := [_, _, _, _, _, _, _, _]) eL_law_2945 (Nat.le_of_ble_eq_true rfl) rfl ?_
  refine r_aload_n eL_law_2947 rfl ?_
  refine r_aload_n eL_law_2948 rfl ?_
  refine r_iload eL_law_2949 rfl ?_
  refine r_iconst (v := (1)) eL_law_2951 (by decide) ?_
  refine r_iadd eL_law_2952 ?_
  refine t_gaS eL_law_2953 q (fun v2953 q => ?_)
  refine r_aload_n eL_law_2954 rfl ?_
  refine r_iload eL_law_2955 rfl ?_
  refine r_iconst (v := (2)) eL_law_2957 (by decide) ?_
  refine r_iadd eL_law_2958 ?_
  refine t_gaS eL_law_2959 q (fun v2959 q => ?_)
  refine t_if_eq eL_law_2960 (t := 2967) (by decide) q (fun q => ?_) (fun q => ?_)
  · refine r_iconst (v := (0)) eL_law_2967 (by decide) ?_
    exact sJ_L_law_2968 (fun b0 b1 b2 b3 b4 b5 b6 b7 b8 b9 b10 g1 g2 q => hK23 b0 b1 b2 b3 b4 b5 b6 b7 b8 b9 b10 (by omega) (by omega) q) q
  refine r_iconst (v := (1)) eL_law_2963 (by decide) ?_
  refine r_goto (t := 2968) eL_law_2964 (by decide) ?_
  exact sJ_L_law_2968 (fun b0 b1 b2 b3 b4 b5 b6 b7 b8 b9 b10 g1 g2 q => hK23 b0 b1 b2 b3 b4 b5 b6 b7 b8 b9 b10 (by omega) (by omega) q) q
theorem sJ_L_law_23 {E : Ev} {d kc ks : Nat} {Φ : Ou → Hp → Prop} {y0 : Nat} {y1 : Nat} {y2 : Nat} {y3 : Nat} {y4 : Int32} {y5 : Option Value} {y6 : Option Value} {y7 : Option Value} {h : Hp} {K23 : Nat → Nat → Nat → Nat → Int32 → Hp → Rs} {K3255 : Nat → Nat → Nat → Nat → Int32 → Hp → Rs} (hc : 7 ≤ kc) (hs : 42 ≤ ks) (hK23 : ∀ (w0 : Nat) (w1 : Nat) (w2 : Nat) (w3 : Nat) (w4 : Int32) (w5 : Option Value) (w6 : Option Value) (w7 : Option Value) (h : Hp) (kc' ks' : Nat), kc ≤ kc' + 7 → ks ≤ ks' + 42 → OK (K23 w0 w1 w2 w3 w4 h) Φ → WE E mL_law (d + 13) 23 [some (.ref w0), some (.ref w1), some (.ref w2), some (.ref w3), some (.int w4), w5, w6, w7] [] h kc' ks' Φ) (hK3255 : ∀ (w0 : Nat) (w1 : Nat) (w2 : Nat) (w3 : Nat) (w4 : Int32) (w5 : Option Value) (w6 : Option Value) (w7 : Option Value) (h : Hp) (kc' ks' : Nat), kc ≤ kc' + 7 → ks ≤ ks' + 42 → OK (K3255 w0 w1 w2 w3 w4 h) Φ → WE E mL_law (d + 13) 3255 [some (.ref w0), some (.ref w1), some (.ref w2), some (.ref w3), some (.int w4), w5, w6, w7] [] h kc' ks' Φ) (q : OK (J_L_law_23 E K23 K3255 y0 y1 y2 y3 y4 h) Φ) : WE E mL_law (d + 13) 23 [some (.ref y0), some (.ref y1), some (.ref y2), some (.ref y3), some (.int y4), y5, y6, y7] [] h kc ks Φ := by
  refine r_iload eL_law_23 rfl ?_
  refine r_aload_n eL_law_25 rfl ?_
  refine t_alnS eL_law_26 q (fun v26 q => ?_)
  refine r_bipush (v := (8)) eL_law_27 (by decide) ?_
  refine r_isub eL_law_29 ?_
  refine t_icmp_gt eL_law_30 (t := 3358) (by decide) q (fun q => ?_) (fun q => ?_)
  · refine r_iconst (v := (1)) eL_law_3358 (by decide) ?_
    exact t_rtZ eL_law_3359 rfl q
  refine r_aload_n eL_law_33 rfl ?_
  refine r_iload eL_law_34 rfl ?_
  refine t_gaS eL_law_36 q (fun v36 q => ?_)
  refine r_bipush (v := (63)) eL_law_37 (by decide) ?_
  refine r_iand eL_law_39 ?_
  refine OK_ite q (fun c0 q => ?_) (fun n0 q => ?_)
  · refine r_tsw 204 eL_law_40 (by rw [c0]; decide) ?_
    refine r_aload_n eL_law_204 rfl ?_
    refine r_aload_n eL_law_205 rfl ?_
    refine r_iload eL_law_206 rfl ?_
    refine r_iconst (v := (1)) eL_law_208 (by decide) ?_
    refine r_iadd eL_law_209 ?_
    refine t_gaS eL_law_210 q (fun v210 q => ?_)
    refine r_aload_n eL_law_211 rfl ?_
    refine r_iload eL_law_212 rfl ?_
    refine r_iconst (v := (2)) eL_law_214 (by decide) ?_
    refine r_iadd eL_law_215 ?_
    refine t_gaS eL_law_216 q (fun v216 q => ?_)
    refine r_aload_n eL_law_217 rfl ?_
    refine t_statIx (As := [_, _, _, _]) (rest := []) (d' := d + 10 + 2) (mc := 1) (ms := 6) eL_law_218 k_13_135 l_13_135 rfl (by omega) (Nat.le_of_ble_eq_true rfl) (Nat.le_of_ble_eq_true rfl) (by omega) (by omega) (fun _ q => s_L_place q) q (fun _ _ q => q.elim) (fun v218 h218 q => ?_)
    refine r_istore (lv' := [_, _, _, _, _, _, _, _]) eL_law_221 (Nat.le_of_ble_eq_true rfl) rfl ?_
    refine r_aload_n eL_law_223 rfl ?_
    refine r_aload_n eL_law_224 rfl ?_
    refine r_iload eL_law_225 rfl ?_
    refine r_iconst (v := (1)) eL_law_227 (by decide) ?_
    refine r_iadd eL_law_228 ?_
    refine t_gaS eL_law_229 q (fun v229 q => ?_)
    refine r_aload_n eL_law_230 rfl ?_
    refine r_iload eL_law_231 rfl ?_
    refine r_iconst (v := (2)) eL_law_233 (by decide) ?_
    refine r_iadd eL_law_234 ?_
    refine t_gaS eL_law_235 q (fun v235 q => ?_)
    refine t_virtI (As := [_, _]) (rest := []) (d' := d + 11 + 1) (ci := 12) eL_law_236 k_13_140 rfl rfl rfl (by omega) (Nat.le_of_ble_eq_true rfl) (Nat.le_of_ble_eq_true rfl) (fun _ q => s_X12_place q) q (fun v236 h236 q => ?_)
    refine r_istore (lv' := [_, _, _, _, _, _, _, _]) eL_law_239 (Nat.le_of_ble_eq_true rfl) rfl ?_
    refine r_aload_n eL_law_241 rfl ?_
    refine t_virtI (As := []) (rest := []) (d' := d + 12 + 0) (ci := 12) eL_law_242 k_13_141 rfl rfl rfl (by omega) (Nat.le_of_ble_eq_true rfl) (Nat.le_of_ble_eq_true rfl) (fun _ q => s_X12_thrown q) q (fun v242 h242 q => ?_)
    refine r_iload eL_law_245 rfl ?_
    refine t_icmp_eq eL_law_247 (t := 252) (by decide) q (fun q => ?_) (fun q => ?_)
    · refine r_iload eL_law_252 rfl ?_
      refine t_if_ne eL_law_254 (t := 269) (by decide) q (fun q => ?_) (fun q => ?_)
      · refine r_goto (t := 3352) eL_law_269 (by decide) ?_
        refine r_iinc (v := (8)) (lv' := [_, _, _, _, _, _, _, _]) eL_law_3352 rfl (by decide) rfl ?_
        refine r_goto (t := 23) eL_law_3355 (by decide) ?_
        exact hK23 _ _ _ _ _ _ _ _ _ _ _ (by omega) (by omega) q
      refine r_aload_n eL_law_257 rfl ?_
      refine r_iconst (v := (0)) eL_law_258 (by decide) ?_
      refine t_gaL eL_law_259 q (fun v259 q => ?_)
      refine r_iload eL_law_260 rfl ?_
      refine r_i2l eL_law_262 ?_
      refine t_lc_eq eL_law_263 eL_law_264 (t := 269) (by decide) q (fun q => ?_) (fun q => ?_)
      · refine r_goto (t := 3352) eL_law_269 (by decide) ?_
        refine r_iinc (v := (8)) (lv' := [_, _, _, _, _, _, _, _]) eL_law_3352 rfl (by decide) rfl ?_
        refine r_goto (t := 23) eL_law_3355 (by decide) ?_
        exact hK23 _ _ _ _ _ _ _ _ _ _ _ (by omega) (by omega) q
      refine r_iconst (v := (0)) eL_law_267 (by decide) ?_
      exact t_rtZ eL_law_268 rfl q
    refine r_iconst (v := (0)) eL_law_250 (by decide) ?_
    exact t_rtZ eL_law_251 rfl q
  refine OK_ite q (fun c1 q => ?_) (fun n1 q => ?_)
  · refine r_tsw 272 eL_law_40 (by rw [c1]; decide) ?_
    refine r_aload_n eL_law_272 rfl ?_
    refine r_aload_n eL_law_273 rfl ?_
    refine r_iload eL_law_274 rfl ?_
    refine r_iconst (v := (1)) eL_law_276 (by decide) ?_
    refine r_iadd eL_law_277 ?_
    refine t_gaS eL_law_278 q (fun v278 q => ?_)
    refine r_aload_n eL_law_279 rfl ?_
    refine r_iload eL_law_280 rfl ?_
    refine r_iconst (v := (2)) eL_law_282 (by decide) ?_
    refine r_iadd eL_law_283 ?_
    refine t_gaS eL_law_284 q (fun v284 q => ?_)
    refine r_aload_n eL_law_285 rfl ?_
    refine r_iload eL_law_286 rfl ?_
    refine r_iconst (v := (3)) eL_law_288 (by decide) ?_
    refine r_iadd eL_law_289 ?_
    refine t_gaS eL_law_290 q (fun v290 q => ?_)
    refine r_aload_n eL_law_291 rfl ?_
    refine r_iload eL_law_292 rfl ?_
    refine r_iconst (v := (4)) eL_law_294 (by decide) ?_
    refine r_iadd eL_law_295 ?_
    refine t_gaS eL_law_296 q (fun v296 q => ?_)
    refine r_aload_n eL_law_297 rfl ?_
    refine r_iload eL_law_298 rfl ?_
    refine r_iconst (v := (5)) eL_law_300 (by decide) ?_
    refine r_iadd eL_law_301 ?_
    refine t_gaS eL_law_302 q (fun v302 q => ?_)
    refine r_aload_n eL_law_303 rfl ?_
    refine r_iload eL_law_304 rfl ?_
    refine r_bipush (v := (6)) eL_law_306 (by decide) ?_
    refine r_iadd eL_law_308 ?_
    refine t_gaS eL_law_309 q (fun v309 q => ?_)
    refine r_aload_n eL_law_310 rfl ?_
    refine t_statIx (As := [_, _, _, _, _, _, _, _]) (rest := []) (d' := d + 10 + 2) (mc := 4) (ms := 24) eL_law_311 k_13_145 l_13_145 rfl (by omega) (Nat.le_of_ble_eq_true rfl) (Nat.le_of_ble_eq_true rfl) (by omega) (by omega) (fun _ q => s_L_way q) q (fun _ _ q => q.elim) (fun v311 h311 q => ?_)
    refine r_istore (lv' := [_, _, _, _, _, _, _, _]) eL_law_314 (Nat.le_of_ble_eq_true rfl) rfl ?_
    refine r_aload_n eL_law_316 rfl ?_
    refine r_aload_n eL_law_317 rfl ?_
    refine r_iload eL_law_318 rfl ?_
    refine r_iconst (v := (1)) eL_law_320 (by decide) ?_
    refine r_iadd eL_law_321 ?_
    refine t_gaS eL_law_322 q (fun v322 q => ?_)
    refine r_aload_n eL_law_323 rfl ?_
    refine r_iload eL_law_324 rfl ?_
    refine r_iconst (v := (2)) eL_law_326 (by decide) ?_
    refine r_iadd eL_law_327 ?_
    refine t_gaS eL_law_328 q (fun v328 q => ?_)
    refine r_aload_n eL_law_329 rfl ?_
    refine r_iload eL_law_330 rfl ?_
    refine r_iconst (v := (3)) eL_law_332 (by decide) ?_
    refine r_iadd eL_law_333 ?_
    refine t_gaS eL_law_334 q (fun v334 q => ?_)
    refine r_aload_n eL_law_335 rfl ?_
    refine r_iload eL_law_336 rfl ?_
    refine r_iconst (v := (4)) eL_law_338 (by decide) ?_
    refine r_iadd eL_law_339 ?_
    refine t_gaS eL_law_340 q (fun v340 q => ?_)
    refine r_aload_n eL_law_341 rfl ?_
    refine r_iload eL_law_342 rfl ?_
    refine r_iconst (v := (5)) eL_law_344 (by decide) ?_
    refine r_iadd eL_law_345 ?_
    refine t_gaS eL_law_346 q (fun v346 q => ?_)
    refine r_aload_n eL_law_347 rfl ?_
    refine r_iload eL_law_348 rfl ?_
    refine r_bipush (v := (6)) eL_law_350 (by decide) ?_
    refine r_iadd eL_law_352 ?_
    refine t_gaS eL_law_353 q (fun v353 q => ?_)
    refine t_virtI (As := [_, _, _, _, _, _]) (rest := []) (d' := d + 9 + 3) (ci := 12) eL_law_354 k_13_148 rfl rfl rfl (by omega) (Nat.le_of_ble_eq_true rfl) (Nat.le_of_ble_eq_true rfl) (fun _ q => s_X12_way q) q (fun v354 h354 q => ?_)
    refine r_istore (lv' := [_, _, _, _, _, _, _, _]) eL_law_357 (Nat.le_of_ble_eq_true rfl) rfl ?_
    refine r_aload_n eL_law_359 rfl ?_
    refine t_virtI (As := []) (rest := []) (d' := d + 12 + 0) (ci := 12) eL_law_360 k_13_141 rfl rfl rfl (by omega) (Nat.le_of_ble_eq_true rfl) (Nat.le_of_ble_eq_true rfl) (fun _ q => s_X12_thrown q) q (fun v360 h360 q => ?_)
    refine r_iload eL_law_363 rfl ?_
    refine t_icmp_eq eL_law_365 (t := 370) (by decide) q (fun q => ?_) (fun q => ?_)
    · refine r_iload eL_law_370 rfl ?_
      refine t_if_ne eL_law_372 (t := 387) (by decide) q (fun q => ?_) (fun q => ?_)
      · refine r_goto (t := 3352) eL_law_387 (by decide) ?_
        refine r_iinc (v := (8)) (lv' := [_, _, _, _, _, _, _, _]) eL_law_3352 rfl (by decide) rfl ?_
        refine r_goto (t := 23) eL_law_3355 (by decide) ?_
        exact hK23 _ _ _ _ _ _ _ _ _ _ _ (by omega) (by omega) q
      refine r_aload_n eL_law_375 rfl ?_
      refine r_iconst (v := (0)) eL_law_376 (by decide) ?_
      refine t_gaL eL_law_377 q (fun v377 q => ?_)
      refine r_iload eL_law_378 rfl ?_
      refine r_i2l eL_law_380 ?_
      refine t_lc_eq eL_law_381 eL_law_382 (t := 387) (by decide) q (fun q => ?_) (fun q => ?_)
      · refine r_goto (t := 3352) eL_law_387 (by decide) ?_
        refine r_iinc (v := (8)) (lv' := [_, _, _, _, _, _, _, _]) eL_law_3352 rfl (by decide) rfl ?_
        refine r_goto (t := 23) eL_law_3355 (by decide) ?_
        exact hK23 _ _ _ _ _ _ _ _ _ _ _ (by omega) (by omega) q
      refine r_iconst (v := (0)) eL_law_385 (by decide) ?_
      exact t_rtZ eL_law_386 rfl q
    refine r_iconst (v := (0)) eL_law_368 (by decide) ?_
    exact t_rtZ eL_law_369 rfl q
  refine OK_ite q (fun c2 q => ?_) (fun n2 q => ?_)
  · refine r_tsw 390 eL_law_40 (by rw [c2]; decide) ?_
    refine r_aload_n eL_law_390 rfl ?_
    refine r_aload_n eL_law_391 rfl ?_
    refine r_iload eL_law_392 rfl ?_
    refine r_iconst (v := (1)) eL_law_394 (by decide) ?_
    refine r_iadd eL_law_395 ?_
    refine t_gaS eL_law_396 q (fun v396 q => ?_)
    refine r_aload_n eL_law_397 rfl ?_
    refine r_iload eL_law_398 rfl ?_
    refine r_iconst (v := (2)) eL_law_400 (by decide) ?_
    refine r_iadd eL_law_401 ?_
    refine t_gaS eL_law_402 q (fun v402 q => ?_)
    refine r_aload_n eL_law_403 rfl ?_
    refine r_iload eL_law_404 rfl ?_
    refine r_iconst (v := (3)) eL_law_406 (by decide) ?_
    refine r_iadd eL_law_407 ?_
    refine t_gaS eL_law_408 q (fun v408 q => ?_)
    refine t_if_eq eL_law_409 (t := 416) (by decide) q (fun q => ?_) (fun q => ?_)
    · refine r_iconst (v := (0)) eL_law_416 (by decide) ?_
      exact sJ_L_law_417 (by omega) (by omega) (fun b0 b1 b2 b3 b4 b5 b6 b7 b8 b9 b10 g1 g2 q => hK23 b0 b1 b2 b3 b4 b5 b6 b7 b8 b9 b10 (by omega) (by omega) q) q
    refine r_iconst (v := (1)) eL_law_412 (by decide) ?_
    refine r_goto (t := 417) eL_law_413 (by decide) ?_
    exact sJ_L_law_417 (by omega) (by omega) (fun b0 b1 b2 b3 b4 b5 b6 b7 b8 b9 b10 g1 g2 q => hK23 b0 b1 b2 b3 b4 b5 b6 b7 b8 b9 b10 (by omega) (by omega) q) q
  refine OK_ite q (fun c3 q => ?_) (fun n3 q => ?_)
  · refine r_tsw 510 eL_law_40 (by rw [c3]; decide) ?_
    refine r_aload_n eL_law_510 rfl ?_
    refine r_aload_n eL_law_511 rfl ?_
    refine r_iload eL_law_512 rfl ?_
    refine r_iconst (v := (1)) eL_law_514 (by decide) ?_
    refine r_iadd eL_law_515 ?_
    refine t_gaS eL_law_516 q (fun v516 q => ?_)
    refine t_if_eq eL_law_517 (t := 524) (by decide) q (fun q => ?_) (fun q => ?_)
    · refine r_iconst (v := (0)) eL_law_524 (by decide) ?_
      exact sJ_L_law_525 (by omega) (by omega) (fun b0 b1 b2 b3 b4 b5 b6 b7 b8 b9 b10 g1 g2 q => hK23 b0 b1 b2 b3 b4 b5 b6 b7 b8 b9 b10 (by omega) (by omega) q) q
    refine r_iconst (v := (1)) eL_law_520 (by decide) ?_
    refine r_goto (t := 525) eL_law_521 (by decide) ?_
    exact sJ_L_law_525 (by omega) (by omega) (fun b0 b1 b2 b3 b4 b5 b6 b7 b8 b9 b10 g1 g2 q => hK23 b0 b1 b2 b3 b4 b5 b6 b7 b8 b9 b10 (by omega) (by omega) q) q
  refine OK_ite q (fun c4 q => ?_) (fun n4 q => ?_)
  · refine r_tsw 606 eL_law_40 (by rw [c4]; decide) ?_
    refine r_aload_n eL_law_606 rfl ?_
    refine r_aload_n eL_law_607 rfl ?_
    refine r_iload eL_law_608 rfl ?_
    refine r_iconst (v := (1)) eL_law_610 (by decide) ?_
    refine r_iadd eL_law_611 ?_
    refine t_gaS eL_law_612 q (fun v612 q => ?_)
    refine r_aload_n eL_law_613 rfl ?_
    refine r_iload eL_law_614 rfl ?_
    refine r_iconst (v := (2)) eL_law_616 (by decide) ?_
    refine r_iadd eL_law_617 ?_
    refine t_gaS eL_law_618 q (fun v618 q => ?_)
    refine r_aload_n eL_law_619 rfl ?_
    refine t_statIx (As := [_, _, _, _]) (rest := []) (d' := d + 10 + 2) (mc := 2) (ms := 12) eL_law_620 k_13_157 l_13_157 rfl (by omega) (Nat.le_of_ble_eq_true rfl) (Nat.le_of_ble_eq_true rfl) (by omega) (by omega) (fun _ q => s_L_state q) q (fun _ _ q => q.elim) (fun v620 h620 q => ?_)
    refine r_istore (lv' := [_, _, _, _, _, _, _, _]) eL_law_623 (Nat.le_of_ble_eq_true rfl) rfl ?_
    refine r_aload_n eL_law_625 rfl ?_
    refine r_aload_n eL_law_626 rfl ?_
    refine r_iload eL_law_627 rfl ?_
    refine r_iconst (v := (1)) eL_law_629 (by decide) ?_
    refine r_iadd eL_law_630 ?_
    refine t_gaS eL_law_631 q (fun v631 q => ?_)
    refine r_aload_n eL_law_632 rfl ?_
    refine r_iload eL_law_633 rfl ?_
    refine r_iconst (v := (2)) eL_law_635 (by decide) ?_
    refine r_iadd eL_law_636 ?_
    refine t_gaS eL_law_637 q (fun v637 q => ?_)
    refine t_virtI (As := [_, _]) (rest := []) (d' := d + 9 + 3) (ci := 12) eL_law_638 k_13_159 rfl rfl rfl (by omega) (Nat.le_of_ble_eq_true rfl) (Nat.le_of_ble_eq_true rfl) (fun _ q => s_X12_state q) q (fun v638 h638 q => ?_)
    refine r_istore (lv' := [_, _, _, _, _, _, _, _]) eL_law_641 (Nat.le_of_ble_eq_true rfl) rfl ?_
    refine r_aload_n eL_law_643 rfl ?_
    refine t_virtI (As := []) (rest := []) (d' := d + 12 + 0) (ci := 12) eL_law_644 k_13_141 rfl rfl rfl (by omega) (Nat.le_of_ble_eq_true rfl) (Nat.le_of_ble_eq_true rfl) (fun _ q => s_X12_thrown q) q (fun v644 h644 q => ?_)
    refine r_iload eL_law_647 rfl ?_
    refine t_icmp_eq eL_law_649 (t := 654) (by decide) q (fun q => ?_) (fun q => ?_)
    · refine r_iload eL_law_654 rfl ?_
      refine t_if_ne eL_law_656 (t := 671) (by decide) q (fun q => ?_) (fun q => ?_)
      · refine r_goto (t := 3352) eL_law_671 (by decide) ?_
        refine r_iinc (v := (8)) (lv' := [_, _, _, _, _, _, _, _]) eL_law_3352 rfl (by decide) rfl ?_
        refine r_goto (t := 23) eL_law_3355 (by decide) ?_
        exact hK23 _ _ _ _ _ _ _ _ _ _ _ (by omega) (by omega) q
      refine r_aload_n eL_law_659 rfl ?_
      refine r_iconst (v := (0)) eL_law_660 (by decide) ?_
      refine t_gaL eL_law_661 q (fun v661 q => ?_)
      refine r_iload eL_law_662 rfl ?_
      refine r_i2l eL_law_664 ?_
      refine t_lc_eq eL_law_665 eL_law_666 (t := 671) (by decide) q (fun q => ?_) (fun q => ?_)
      · refine r_goto (t := 3352) eL_law_671 (by decide) ?_
        refine r_iinc (v := (8)) (lv' := [_, _, _, _, _, _, _, _]) eL_law_3352 rfl (by decide) rfl ?_
        refine r_goto (t := 23) eL_law_3355 (by decide) ?_
        exact hK23 _ _ _ _ _ _ _ _ _ _ _ (by omega) (by omega) q
      refine r_iconst (v := (0)) eL_law_669 (by decide) ?_
      exact t_rtZ eL_law_670 rfl q
    refine r_iconst (v := (0)) eL_law_652 (by decide) ?_
    exact t_rtZ eL_law_653 rfl q
  refine OK_ite q (fun c5 q => ?_) (fun n5 q => ?_)
  · refine r_tsw 674 eL_law_40 (by rw [c5]; decide) ?_
    refine r_aload_n eL_law_674 rfl ?_
    refine r_aload_n eL_law_675 rfl ?_
    refine r_iload eL_law_676 rfl ?_
    refine r_iconst (v := (1)) eL_law_678 (by decide) ?_
    refine r_iadd eL_law_679 ?_
    refine t_gaS eL_law_680 q (fun v680 q => ?_)
    refine r_aload_n eL_law_681 rfl ?_
    refine r_iload eL_law_682 rfl ?_
    refine r_iconst (v := (2)) eL_law_684 (by decide) ?_
    refine r_iadd eL_law_685 ?_
    refine t_gaS eL_law_686 q (fun v686 q => ?_)
    refine r_aload_n eL_law_687 rfl ?_
    refine r_iload eL_law_688 rfl ?_
    refine r_iconst (v := (3)) eL_law_690 (by decide) ?_
    refine r_iadd eL_law_691 ?_
    refine t_gaS eL_law_692 q (fun v692 q => ?_)
    refine r_aload_n eL_law_693 rfl ?_
    refine t_statIx (As := [_, _, _, _, _]) (rest := []) (d' := d + 8 + 4) (mc := 2) (ms := 12) eL_law_694 k_13_160 l_13_160 rfl (by omega) (Nat.le_of_ble_eq_true rfl) (Nat.le_of_ble_eq_true rfl) (by omega) (by omega) (fun _ q => s_L_out q) q (fun _ _ q => q.elim) (fun v694 h694 q => ?_)
    refine r_istore (lv' := [_, _, _, _, _, _, _, _]) eL_law_697 (Nat.le_of_ble_eq_true rfl) rfl ?_
    refine r_aload_n eL_law_699 rfl ?_
    refine r_aload_n eL_law_700 rfl ?_
    refine r_iload eL_law_701 rfl ?_
    refine r_iconst (v := (1)) eL_law_703 (by decide) ?_
    refine r_iadd eL_law_704 ?_
    refine t_gaS eL_law_705 q (fun v705 q => ?_)
    refine r_aload_n eL_law_706 rfl ?_
    refine r_iload eL_law_707 rfl ?_
    refine r_iconst (v := (2)) eL_law_709 (by decide) ?_
    refine r_iadd eL_law_710 ?_
    refine t_gaS eL_law_711 q (fun v711 q => ?_)
    refine r_aload_n eL_law_712 rfl ?_
    refine r_iload eL_law_713 rfl ?_
    refine r_iconst (v := (3)) eL_law_715 (by decide) ?_
    refine r_iadd eL_law_716 ?_
    refine t_gaS eL_law_717 q (fun v717 q => ?_)
    refine t_virtI (As := [_, _, _]) (rest := []) (d' := d + 8 + 4) (ci := 12) eL_law_718 k_13_163 rfl rfl rfl (by omega) (Nat.le_of_ble_eq_true rfl) (Nat.le_of_ble_eq_true rfl) (fun _ q => s_X12_out q) q (fun v718 h718 q => ?_)
    refine r_istore (lv' := [_, _, _, _, _, _, _, _]) eL_law_721 (Nat.le_of_ble_eq_true rfl) rfl ?_
    refine r_aload_n eL_law_723 rfl ?_
    refine t_virtI (As := []) (rest := []) (d' := d + 12 + 0) (ci := 12) eL_law_724 k_13_141 rfl rfl rfl (by omega) (Nat.le_of_ble_eq_true rfl) (Nat.le_of_ble_eq_true rfl) (fun _ q => s_X12_thrown q) q (fun v724 h724 q => ?_)
    refine r_iload eL_law_727 rfl ?_
    refine t_icmp_eq eL_law_729 (t := 734) (by decide) q (fun q => ?_) (fun q => ?_)
    · refine r_iload eL_law_734 rfl ?_
      refine t_if_ne eL_law_736 (t := 751) (by decide) q (fun q => ?_) (fun q => ?_)
      · refine r_goto (t := 3352) eL_law_751 (by decide) ?_
        refine r_iinc (v := (8)) (lv' := [_, _, _, _, _, _, _, _]) eL_law_3352 rfl (by decide) rfl ?_
        refine r_goto (t := 23) eL_law_3355 (by decide) ?_
        exact hK23 _ _ _ _ _ _ _ _ _ _ _ (by omega) (by omega) q
      refine r_aload_n eL_law_739 rfl ?_
      refine r_iconst (v := (0)) eL_law_740 (by decide) ?_
      refine t_gaL eL_law_741 q (fun v741 q => ?_)
      refine r_iload eL_law_742 rfl ?_
      refine r_i2l eL_law_744 ?_
      refine t_lc_eq eL_law_745 eL_law_746 (t := 751) (by decide) q (fun q => ?_) (fun q => ?_)
      · refine r_goto (t := 3352) eL_law_751 (by decide) ?_
        refine r_iinc (v := (8)) (lv' := [_, _, _, _, _, _, _, _]) eL_law_3352 rfl (by decide) rfl ?_
        refine r_goto (t := 23) eL_law_3355 (by decide) ?_
        exact hK23 _ _ _ _ _ _ _ _ _ _ _ (by omega) (by omega) q
      refine r_iconst (v := (0)) eL_law_749 (by decide) ?_
      exact t_rtZ eL_law_750 rfl q
    refine r_iconst (v := (0)) eL_law_732 (by decide) ?_
    exact t_rtZ eL_law_733 rfl q
  refine OK_ite q (fun c6 q => ?_) (fun n6 q => ?_)
  · refine r_tsw 754 eL_law_40 (by rw [c6]; decide) ?_
    refine r_aload_n eL_law_754 rfl ?_
    refine r_aload_n eL_law_755 rfl ?_
    refine r_iload eL_law_756 rfl ?_
    refine r_iconst (v := (1)) eL_law_758 (by decide) ?_
    refine r_iadd eL_law_759 ?_
    refine t_gaS eL_law_760 q (fun v760 q => ?_)
    refine r_aload_n eL_law_761 rfl ?_
    refine r_iload eL_law_762 rfl ?_
    refine r_iconst (v := (2)) eL_law_764 (by decide) ?_
    refine r_iadd eL_law_765 ?_
    refine t_gaS eL_law_766 q (fun v766 q => ?_)
    refine r_aload_n eL_law_767 rfl ?_
    refine r_iload eL_law_768 rfl ?_
    refine r_iconst (v := (3)) eL_law_770 (by decide) ?_
    refine r_iadd eL_law_771 ?_
    refine t_gaS eL_law_772 q (fun v772 q => ?_)
    refine r_aload_n eL_law_773 rfl ?_
    refine t_statIx (As := [_, _, _, _, _]) (rest := []) (d' := d + 8 + 4) (mc := 2) (ms := 12) eL_law_774 k_13_164 l_13_164 rfl (by omega) (Nat.le_of_ble_eq_true rfl) (Nat.le_of_ble_eq_true rfl) (by omega) (by omega) (fun _ q => s_L_on q) q (fun _ _ q => q.elim) (fun v774 h774 q => ?_)
    refine r_istore (lv' := [_, _, _, _, _, _, _, _]) eL_law_777 (Nat.le_of_ble_eq_true rfl) rfl ?_
    refine r_aload_n eL_law_779 rfl ?_
    refine r_aload_n eL_law_780 rfl ?_
    refine r_iload eL_law_781 rfl ?_
    refine r_iconst (v := (1)) eL_law_783 (by decide) ?_
    refine r_iadd eL_law_784 ?_
    refine t_gaS eL_law_785 q (fun v785 q => ?_)
    refine r_aload_n eL_law_786 rfl ?_
    refine r_iload eL_law_787 rfl ?_
    refine r_iconst (v := (2)) eL_law_789 (by decide) ?_
    refine r_iadd eL_law_790 ?_
    refine t_gaS eL_law_791 q (fun v791 q => ?_)
    refine r_aload_n eL_law_792 rfl ?_
    refine r_iload eL_law_793 rfl ?_
    refine r_iconst (v := (3)) eL_law_795 (by decide) ?_
    refine r_iadd eL_law_796 ?_
    refine t_gaS eL_law_797 q (fun v797 q => ?_)
    refine t_virtI (As := [_, _, _]) (rest := []) (d' := d + 5 + 7) (ci := 12) eL_law_798 k_13_166 rfl rfl rfl (by omega) (Nat.le_of_ble_eq_true rfl) (Nat.le_of_ble_eq_true rfl) (fun _ q => s_X12_on q) q (fun v798 h798 q => ?_)
    refine r_istore (lv' := [_, _, _, _, _, _, _, _]) eL_law_801 (Nat.le_of_ble_eq_true rfl) rfl ?_
    refine r_aload_n eL_law_803 rfl ?_
    refine t_virtI (As := []) (rest := []) (d' := d + 12 + 0) (ci := 12) eL_law_804 k_13_141 rfl rfl rfl (by omega) (Nat.le_of_ble_eq_true rfl) (Nat.le_of_ble_eq_true rfl) (fun _ q => s_X12_thrown q) q (fun v804 h804 q => ?_)
    refine r_iload eL_law_807 rfl ?_
    refine t_icmp_eq eL_law_809 (t := 814) (by decide) q (fun q => ?_) (fun q => ?_)
    · refine r_iload eL_law_814 rfl ?_
      refine t_if_ne eL_law_816 (t := 831) (by decide) q (fun q => ?_) (fun q => ?_)
      · refine r_goto (t := 3352) eL_law_831 (by decide) ?_
        refine r_iinc (v := (8)) (lv' := [_, _, _, _, _, _, _, _]) eL_law_3352 rfl (by decide) rfl ?_
        refine r_goto (t := 23) eL_law_3355 (by decide) ?_
        exact hK23 _ _ _ _ _ _ _ _ _ _ _ (by omega) (by omega) q
      refine r_aload_n eL_law_819 rfl ?_
      refine r_iconst (v := (0)) eL_law_820 (by decide) ?_
      refine t_gaL eL_law_821 q (fun v821 q => ?_)
      refine r_iload eL_law_822 rfl ?_
      refine r_i2l eL_law_824 ?_
      refine t_lc_eq eL_law_825 eL_law_826 (t := 831) (by decide) q (fun q => ?_) (fun q => ?_)
      · refine r_goto (t := 3352) eL_law_831 (by decide) ?_
        refine r_iinc (v := (8)) (lv' := [_, _, _, _, _, _, _, _]) eL_law_3352 rfl (by decide) rfl ?_
        refine r_goto (t := 23) eL_law_3355 (by decide) ?_
        exact hK23 _ _ _ _ _ _ _ _ _ _ _ (by omega) (by omega) q
      refine r_iconst (v := (0)) eL_law_829 (by decide) ?_
      exact t_rtZ eL_law_830 rfl q
    refine r_iconst (v := (0)) eL_law_812 (by decide) ?_
    exact t_rtZ eL_law_813 rfl q
  refine OK_ite q (fun c7 q => ?_) (fun n7 q => ?_)
  · refine r_tsw 834 eL_law_40 (by rw [c7]; decide) ?_
    refine r_aload_n eL_law_834 rfl ?_
    refine t_virtI (As := []) (rest := []) (d' := d + 11 + 1) (ci := 11) eL_law_835 k_13_167 rfl rfl rfl (by omega) (Nat.le_of_ble_eq_true rfl) (Nat.le_of_ble_eq_true rfl) (fun _ q => s_X11_tongue q) q (fun v835 h835 q => ?_)
    refine r_aload_n eL_law_838 rfl ?_
    refine t_virtI (As := []) (rest := [_]) (d' := d + 11 + 1) (ci := 12) eL_law_839 k_13_170 rfl rfl rfl (by omega) (Nat.le_of_ble_eq_true rfl) (Nat.le_of_ble_eq_true rfl) (fun _ q => s_X12_tongue q) q (fun v839 h839 q => ?_)
    refine t_icmp_eq eL_law_842 (t := 3352) (by decide) q (fun q => ?_) (fun q => ?_)
    · refine r_iinc (v := (8)) (lv' := [_, _, _, _, _, _, _, _]) eL_law_3352 rfl (by decide) rfl ?_
      refine r_goto (t := 23) eL_law_3355 (by decide) ?_
      exact hK23 _ _ _ _ _ _ _ _ _ _ _ (by omega) (by omega) q
    refine r_iconst (v := (0)) eL_law_845 (by decide) ?_
    exact t_rtZ eL_law_846 rfl q
  refine OK_ite q (fun c8 q => ?_) (fun n8 q => ?_)
  · refine r_tsw 847 eL_law_40 (by rw [c8]; decide) ?_
    refine r_aload_n eL_law_847 rfl ?_
    refine r_aload_n eL_law_848 rfl ?_
    refine r_iload eL_law_849 rfl ?_
    refine r_iconst (v := (1)) eL_law_851 (by decide) ?_
    refine r_iadd eL_law_852 ?_
    refine t_gaS eL_law_853 q (fun v853 q => ?_)
    refine r_aload_n eL_law_854 rfl ?_
    refine r_iload eL_law_855 rfl ?_
    refine r_iconst (v := (2)) eL_law_857 (by decide) ?_
    refine r_iadd eL_law_858 ?_
    refine t_gaS eL_law_859 q (fun v859 q => ?_)
    refine r_aload_n eL_law_860 rfl ?_
    refine r_iload eL_law_861 rfl ?_
    refine r_iconst (v := (3)) eL_law_863 (by decide) ?_
    refine r_iadd eL_law_864 ?_
    refine t_gaS eL_law_865 q (fun v865 q => ?_)
    refine r_aload_n eL_law_866 rfl ?_
    refine t_statIx (As := [_, _, _, _, _]) (rest := []) (d' := d + 10 + 2) (mc := 3) (ms := 18) eL_law_867 k_13_171 l_13_171 rfl (by omega) (Nat.le_of_ble_eq_true rfl) (Nat.le_of_ble_eq_true rfl) (by omega) (by omega) (fun _ q => s_L_means q) q (fun _ _ q => q.elim) (fun v867 h867 q => ?_)
    refine r_istore (lv' := [_, _, _, _, _, _, _, _]) eL_law_870 (Nat.le_of_ble_eq_true rfl) rfl ?_
    refine r_aload_n eL_law_872 rfl ?_
    refine r_aload_n eL_law_873 rfl ?_
    refine r_iload eL_law_874 rfl ?_
    refine r_iconst (v := (1)) eL_law_876 (by decide) ?_
    refine r_iadd eL_law_877 ?_
    refine t_gaS eL_law_878 q (fun v878 q => ?_)
    refine r_aload_n eL_law_879 rfl ?_
    refine r_iload eL_law_880 rfl ?_
    refine r_iconst (v := (2)) eL_law_882 (by decide) ?_
    refine r_iadd eL_law_883 ?_
    refine t_gaS eL_law_884 q (fun v884 q => ?_)
    refine r_aload_n eL_law_885 rfl ?_
    refine r_iload eL_law_886 rfl ?_
    refine r_iconst (v := (3)) eL_law_888 (by decide) ?_
    refine r_iadd eL_law_889 ?_
    refine t_gaS eL_law_890 q (fun v890 q => ?_)
    refine t_virtI (As := [_, _, _]) (rest := []) (d' := d + 10 + 2) (ci := 12) eL_law_891 k_13_173 rfl rfl rfl (by omega) (Nat.le_of_ble_eq_true rfl) (Nat.le_of_ble_eq_true rfl) (fun _ q => s_X12_means q) q (fun v891 h891 q => ?_)
    refine r_istore (lv' := [_, _, _, _, _, _, _, _]) eL_law_894 (Nat.le_of_ble_eq_true rfl) rfl ?_
    refine r_aload_n eL_law_896 rfl ?_
    refine t_virtI (As := []) (rest := []) (d' := d + 12 + 0) (ci := 12) eL_law_897 k_13_141 rfl rfl rfl (by omega) (Nat.le_of_ble_eq_true rfl) (Nat.le_of_ble_eq_true rfl) (fun _ q => s_X12_thrown q) q (fun v897 h897 q => ?_)
    refine r_iload eL_law_900 rfl ?_
    refine t_icmp_eq eL_law_902 (t := 907) (by decide) q (fun q => ?_) (fun q => ?_)
    · refine r_iload eL_law_907 rfl ?_
      refine t_if_ne eL_law_909 (t := 924) (by decide) q (fun q => ?_) (fun q => ?_)
      · refine r_goto (t := 3352) eL_law_924 (by decide) ?_
        refine r_iinc (v := (8)) (lv' := [_, _, _, _, _, _, _, _]) eL_law_3352 rfl (by decide) rfl ?_
        refine r_goto (t := 23) eL_law_3355 (by decide) ?_
        exact hK23 _ _ _ _ _ _ _ _ _ _ _ (by omega) (by omega) q
      refine r_aload_n eL_law_912 rfl ?_
      refine r_iconst (v := (0)) eL_law_913 (by decide) ?_
      refine t_gaL eL_law_914 q (fun v914 q => ?_)
      refine r_iload eL_law_915 rfl ?_
      refine r_i2l eL_law_917 ?_
      refine t_lc_eq eL_law_918 eL_law_919 (t := 924) (by decide) q (fun q => ?_) (fun q => ?_)
      · refine r_goto (t := 3352) eL_law_924 (by decide) ?_
        refine r_iinc (v := (8)) (lv' := [_, _, _, _, _, _, _, _]) eL_law_3352 rfl (by decide) rfl ?_
        refine r_goto (t := 23) eL_law_3355 (by decide) ?_
        exact hK23 _ _ _ _ _ _ _ _ _ _ _ (by omega) (by omega) q
      refine r_iconst (v := (0)) eL_law_922 (by decide) ?_
      exact t_rtZ eL_law_923 rfl q
    refine r_iconst (v := (0)) eL_law_905 (by decide) ?_
    exact t_rtZ eL_law_906 rfl q
  refine OK_ite q (fun c9 q => ?_) (fun n9 q => ?_)
  · refine r_tsw 927 eL_law_40 (by rw [c9]; decide) ?_
    refine r_aload_n eL_law_927 rfl ?_
    refine r_aload_n eL_law_928 rfl ?_
    refine r_iload eL_law_929 rfl ?_
    refine r_iconst (v := (1)) eL_law_931 (by decide) ?_
    refine r_iadd eL_law_932 ?_
    refine t_gaS eL_law_933 q (fun v933 q => ?_)
    refine r_aload_n eL_law_934 rfl ?_
    refine r_iload eL_law_935 rfl ?_
    refine r_iconst (v := (2)) eL_law_937 (by decide) ?_
    refine r_iadd eL_law_938 ?_
    refine t_gaS eL_law_939 q (fun v939 q => ?_)
    refine r_aload_n eL_law_940 rfl ?_
    refine r_iload eL_law_941 rfl ?_
    refine r_iconst (v := (3)) eL_law_943 (by decide) ?_
    refine r_iadd eL_law_944 ?_
    refine t_gaS eL_law_945 q (fun v945 q => ?_)
    refine t_if_eq eL_law_946 (t := 953) (by decide) q (fun q => ?_) (fun q => ?_)
    · refine r_iconst (v := (0)) eL_law_953 (by decide) ?_
      exact sJ_L_law_954 (by omega) (by omega) (fun b0 b1 b2 b3 b4 b5 b6 b7 b8 b9 b10 g1 g2 q => hK23 b0 b1 b2 b3 b4 b5 b6 b7 b8 b9 b10 (by omega) (by omega) q) q
    refine r_iconst (v := (1)) eL_law_949 (by decide) ?_
    refine r_goto (t := 954) eL_law_950 (by decide) ?_
    exact sJ_L_law_954 (by omega) (by omega) (fun b0 b1 b2 b3 b4 b5 b6 b7 b8 b9 b10 g1 g2 q => hK23 b0 b1 b2 b3 b4 b5 b6 b7 b8 b9 b10 (by omega) (by omega) q) q
  refine OK_ite q (fun c10 q => ?_) (fun n10 q => ?_)
  · refine r_tsw 1063 eL_law_40 (by rw [c10]; decide) ?_
    refine r_aload_n eL_law_1063 rfl ?_
    refine r_aload_n eL_law_1064 rfl ?_
    refine r_iload eL_law_1065 rfl ?_
    refine r_iconst (v := (1)) eL_law_1067 (by decide) ?_
    refine r_iadd eL_law_1068 ?_
    refine t_gaS eL_law_1069 q (fun v1069 q => ?_)
    refine r_aload_n eL_law_1070 rfl ?_
    refine r_iload eL_law_1071 rfl ?_
    refine r_iconst (v := (2)) eL_law_1073 (by decide) ?_
    refine r_iadd eL_law_1074 ?_
    refine t_gaS eL_law_1075 q (fun v1075 q => ?_)
    refine r_aload_n eL_law_1076 rfl ?_
    refine r_iload eL_law_1077 rfl ?_
    refine r_iconst (v := (3)) eL_law_1079 (by decide) ?_
    refine r_iadd eL_law_1080 ?_
    refine t_gaS eL_law_1081 q (fun v1081 q => ?_)
    refine r_aload_n eL_law_1082 rfl ?_
    refine r_iload eL_law_1083 rfl ?_
    refine r_iconst (v := (4)) eL_law_1085 (by decide) ?_
    refine r_iadd eL_law_1086 ?_
    refine t_gaS eL_law_1087 q (fun v1087 q => ?_)
    refine r_aload_n eL_law_1088 rfl ?_
    refine r_iload eL_law_1089 rfl ?_
    refine r_iconst (v := (5)) eL_law_1091 (by decide) ?_
    refine r_iadd eL_law_1092 ?_
    refine t_gaS eL_law_1093 q (fun v1093 q => ?_)
    refine t_if_eq eL_law_1094 (t := 1101) (by decide) q (fun q => ?_) (fun q => ?_)
    · refine r_iconst (v := (0)) eL_law_1101 (by decide) ?_
      exact sJ_L_law_1102 (by omega) (by omega) (fun b0 b1 b2 b3 b4 b5 b6 b7 b8 b9 b10 g1 g2 q => hK23 b0 b1 b2 b3 b4 b5 b6 b7 b8 b9 b10 (by omega) (by omega) q) q
    refine r_iconst (v := (1)) eL_law_1097 (by decide) ?_
    refine r_goto (t := 1102) eL_law_1098 (by decide) ?_
    exact sJ_L_law_1102 (by omega) (by omega) (fun b0 b1 b2 b3 b4 b5 b6 b7 b8 b9 b10 g1 g2 q => hK23 b0 b1 b2 b3 b4 b5 b6 b7 b8 b9 b10 (by omega) (by omega) q) q
  refine OK_ite q (fun c11 q => ?_) (fun n11 q => ?_)
  · refine r_tsw 1190 eL_law_40 (by rw [c11]; decide) ?_
    refine r_aload_n eL_law_1190 rfl ?_
    refine r_aload_n eL_law_1191 rfl ?_
    refine r_iload eL_law_1192 rfl ?_
    refine r_iconst (v := (1)) eL_law_1194 (by decide) ?_
    refine r_iadd eL_law_1195 ?_
    refine t_gaS eL_law_1196 q (fun v1196 q => ?_)
    refine r_aload_n eL_law_1197 rfl ?_
    refine r_iload eL_law_1198 rfl ?_
    refine r_iconst (v := (2)) eL_law_1200 (by decide) ?_
    refine r_iadd eL_law_1201 ?_
    refine t_gaS eL_law_1202 q (fun v1202 q => ?_)
    refine r_aload_n eL_law_1203 rfl ?_
    refine r_iload eL_law_1204 rfl ?_
    refine r_iconst (v := (3)) eL_law_1206 (by decide) ?_
    refine r_iadd eL_law_1207 ?_
    refine t_gaS eL_law_1208 q (fun v1208 q => ?_)
    refine r_aload_n eL_law_1209 rfl ?_
    refine r_iload eL_law_1210 rfl ?_
    refine r_iconst (v := (4)) eL_law_1212 (by decide) ?_
    refine r_iadd eL_law_1213 ?_
    refine t_gaS eL_law_1214 q (fun v1214 q => ?_)
    refine r_aload_n eL_law_1215 rfl ?_
    refine t_statIx (As := [_, _, _, _, _, _]) (rest := []) (d' := d + 9 + 3) (mc := 3) (ms := 18) eL_law_1216 k_13_182 l_13_182 rfl (by omega) (Nat.le_of_ble_eq_true rfl) (Nat.le_of_ble_eq_true rfl) (by omega) (by omega) (fun _ q => s_L_worth q) q (fun _ _ q => q.elim) (fun v1216 h1216 q => ?_)
    refine r_istore (lv' := [_, _, _, _, _, _, _, _]) eL_law_1219 (Nat.le_of_ble_eq_true rfl) rfl ?_
    refine r_aload_n eL_law_1221 rfl ?_
    refine r_aload_n eL_law_1222 rfl ?_
    refine r_iload eL_law_1223 rfl ?_
    refine r_iconst (v := (1)) eL_law_1225 (by decide) ?_
    refine r_iadd eL_law_1226 ?_
    refine t_gaS eL_law_1227 q (fun v1227 q => ?_)
    refine r_aload_n eL_law_1228 rfl ?_
    refine r_iload eL_law_1229 rfl ?_
    refine r_iconst (v := (2)) eL_law_1231 (by decide) ?_
    refine r_iadd eL_law_1232 ?_
    refine t_gaS eL_law_1233 q (fun v1233 q => ?_)
    refine r_aload_n eL_law_1234 rfl ?_
    refine r_iload eL_law_1235 rfl ?_
    refine r_iconst (v := (3)) eL_law_1237 (by decide) ?_
    refine r_iadd eL_law_1238 ?_
    refine t_gaS eL_law_1239 q (fun v1239 q => ?_)
    refine r_aload_n eL_law_1240 rfl ?_
    refine r_iload eL_law_1241 rfl ?_
    refine r_iconst (v := (4)) eL_law_1243 (by decide) ?_
    refine r_iadd eL_law_1244 ?_
    refine t_gaS eL_law_1245 q (fun v1245 q => ?_)
    refine t_virtI (As := [_, _, _, _]) (rest := []) (d' := d + 10 + 2) (ci := 12) eL_law_1246 k_13_185 rfl rfl rfl (by omega) (Nat.le_of_ble_eq_true rfl) (Nat.le_of_ble_eq_true rfl) (fun _ q => s_X12_worth q) q (fun v1246 h1246 q => ?_)
    refine r_istore (lv' := [_, _, _, _, _, _, _, _]) eL_law_1249 (Nat.le_of_ble_eq_true rfl) rfl ?_
    refine r_aload_n eL_law_1251 rfl ?_
    refine t_virtI (As := []) (rest := []) (d' := d + 12 + 0) (ci := 12) eL_law_1252 k_13_141 rfl rfl rfl (by omega) (Nat.le_of_ble_eq_true rfl) (Nat.le_of_ble_eq_true rfl) (fun _ q => s_X12_thrown q) q (fun v1252 h1252 q => ?_)
    refine r_iload eL_law_1255 rfl ?_
    refine t_icmp_eq eL_law_1257 (t := 1262) (by decide) q (fun q => ?_) (fun q => ?_)
    · refine r_iload eL_law_1262 rfl ?_
      refine t_if_ne eL_law_1264 (t := 1279) (by decide) q (fun q => ?_) (fun q => ?_)
      · refine r_goto (t := 3352) eL_law_1279 (by decide) ?_
        refine r_iinc (v := (8)) (lv' := [_, _, _, _, _, _, _, _]) eL_law_3352 rfl (by decide) rfl ?_
        refine r_goto (t := 23) eL_law_3355 (by decide) ?_
        exact hK23 _ _ _ _ _ _ _ _ _ _ _ (by omega) (by omega) q
      refine r_aload_n eL_law_1267 rfl ?_
      refine r_iconst (v := (0)) eL_law_1268 (by decide) ?_
      refine t_gaL eL_law_1269 q (fun v1269 q => ?_)
      refine r_iload eL_law_1270 rfl ?_
      refine r_i2l eL_law_1272 ?_
      refine t_lc_eq eL_law_1273 eL_law_1274 (t := 1279) (by decide) q (fun q => ?_) (fun q => ?_)
      · refine r_goto (t := 3352) eL_law_1279 (by decide) ?_
        refine r_iinc (v := (8)) (lv' := [_, _, _, _, _, _, _, _]) eL_law_3352 rfl (by decide) rfl ?_
        refine r_goto (t := 23) eL_law_3355 (by decide) ?_
        exact hK23 _ _ _ _ _ _ _ _ _ _ _ (by omega) (by omega) q
      refine r_iconst (v := (0)) eL_law_1277 (by decide) ?_
      exact t_rtZ eL_law_1278 rfl q
    refine r_iconst (v := (0)) eL_law_1260 (by decide) ?_
    exact t_rtZ eL_law_1261 rfl q
  refine OK_ite q (fun c12 q => ?_) (fun n12 q => ?_)
  · refine r_tsw 1282 eL_law_40 (by rw [c12]; decide) ?_
    refine r_aload_n eL_law_1282 rfl ?_
    refine r_aload_n eL_law_1283 rfl ?_
    refine r_iload eL_law_1284 rfl ?_
    refine r_iconst (v := (1)) eL_law_1286 (by decide) ?_
    refine r_iadd eL_law_1287 ?_
    refine t_gaS eL_law_1288 q (fun v1288 q => ?_)
    refine r_aload_n eL_law_1289 rfl ?_
    refine r_iload eL_law_1290 rfl ?_
    refine r_iconst (v := (2)) eL_law_1292 (by decide) ?_
    refine r_iadd eL_law_1293 ?_
    refine t_gaS eL_law_1294 q (fun v1294 q => ?_)
    refine r_aload_n eL_law_1295 rfl ?_
    refine r_iload eL_law_1296 rfl ?_
    refine r_iconst (v := (3)) eL_law_1298 (by decide) ?_
    refine r_iadd eL_law_1299 ?_
    refine t_gaS eL_law_1300 q (fun v1300 q => ?_)
    refine r_aload_n eL_law_1301 rfl ?_
    refine r_iload eL_law_1302 rfl ?_
    refine r_iconst (v := (4)) eL_law_1304 (by decide) ?_
    refine r_iadd eL_law_1305 ?_
    refine t_gaS eL_law_1306 q (fun v1306 q => ?_)
    refine r_aload_n eL_law_1307 rfl ?_
    refine r_iload eL_law_1308 rfl ?_
    refine r_iconst (v := (5)) eL_law_1310 (by decide) ?_
    refine r_iadd eL_law_1311 ?_
    refine t_gaS eL_law_1312 q (fun v1312 q => ?_)
    refine t_virtI (As := [_, _, _, _, _]) (rest := []) (d' := d + 11 + 1) (ci := 11) eL_law_1313 k_13_186 rfl rfl rfl (by omega) (Nat.le_of_ble_eq_true rfl) (Nat.le_of_ble_eq_true rfl) (fun _ q => s_X11_feed q) q (fun v1313 h1313 q => ?_)
    refine r_aload_n eL_law_1316 rfl ?_
    refine r_aload_n eL_law_1317 rfl ?_
    refine r_iload eL_law_1318 rfl ?_
    refine r_iconst (v := (1)) eL_law_1320 (by decide) ?_
    refine r_iadd eL_law_1321 ?_
    refine t_gaS eL_law_1322 q (fun v1322 q => ?_)
    refine r_aload_n eL_law_1323 rfl ?_
    refine r_iload eL_law_1324 rfl ?_
    refine r_iconst (v := (2)) eL_law_1326 (by decide) ?_
    refine r_iadd eL_law_1327 ?_
    refine t_gaS eL_law_1328 q (fun v1328 q => ?_)
    refine r_aload_n eL_law_1329 rfl ?_
    refine r_iload eL_law_1330 rfl ?_
    refine r_iconst (v := (3)) eL_law_1332 (by decide) ?_
    refine r_iadd eL_law_1333 ?_
    refine t_gaS eL_law_1334 q (fun v1334 q => ?_)
    refine r_aload_n eL_law_1335 rfl ?_
    refine r_iload eL_law_1336 rfl ?_
    refine r_iconst (v := (4)) eL_law_1338 (by decide) ?_
    refine r_iadd eL_law_1339 ?_
    refine t_gaS eL_law_1340 q (fun v1340 q => ?_)
    refine r_aload_n eL_law_1341 rfl ?_
    refine r_iload eL_law_1342 rfl ?_
    refine r_iconst (v := (5)) eL_law_1344 (by decide) ?_
    refine r_iadd eL_law_1345 ?_
    refine t_gaS eL_law_1346 q (fun v1346 q => ?_)
    refine t_virtI (As := [_, _, _, _, _]) (rest := [_]) (d' := d + 12 + 0) (ci := 12) eL_law_1347 k_13_189 rfl rfl rfl (by omega) (Nat.le_of_ble_eq_true rfl) (Nat.le_of_ble_eq_true rfl) (fun _ q => s_X12_feed q) q (fun v1347 h1347 q => ?_)
    refine t_icmp_eq eL_law_1350 (t := 3352) (by decide) q (fun q => ?_) (fun q => ?_)
    · refine r_iinc (v := (8)) (lv' := [_, _, _, _, _, _, _, _]) eL_law_3352 rfl (by decide) rfl ?_
      refine r_goto (t := 23) eL_law_3355 (by decide) ?_
      exact hK23 _ _ _ _ _ _ _ _ _ _ _ (by omega) (by omega) q
    refine r_iconst (v := (0)) eL_law_1353 (by decide) ?_
    exact t_rtZ eL_law_1354 rfl q
  refine OK_ite q (fun c13 q => ?_) (fun n13 q => ?_)
  · refine r_tsw 1355 eL_law_40 (by rw [c13]; decide) ?_
    refine r_aload_n eL_law_1355 rfl ?_
    refine r_aload_n eL_law_1356 rfl ?_
    refine r_iload eL_law_1357 rfl ?_
    refine r_iconst (v := (1)) eL_law_1359 (by decide) ?_
    refine r_iadd eL_law_1360 ?_
    refine t_gaS eL_law_1361 q (fun v1361 q => ?_)
    refine r_aload_n eL_law_1362 rfl ?_
    refine r_iload eL_law_1363 rfl ?_
    refine r_iconst (v := (2)) eL_law_1365 (by decide) ?_
    refine r_iadd eL_law_1366 ?_
    refine t_gaS eL_law_1367 q (fun v1367 q => ?_)
    refine r_aload_n eL_law_1368 rfl ?_
    refine r_iload eL_law_1369 rfl ?_
    refine r_iconst (v := (3)) eL_law_1371 (by decide) ?_
    refine r_iadd eL_law_1372 ?_
    refine t_gaS eL_law_1373 q (fun v1373 q => ?_)
    refine r_aload_n eL_law_1374 rfl ?_
    refine t_statIx (As := [_, _, _, _, _]) (rest := []) (d' := d + 6 + 6) (mc := 2) (ms := 12) eL_law_1375 k_13_190 l_13_190 rfl (by omega) (Nat.le_of_ble_eq_true rfl) (Nat.le_of_ble_eq_true rfl) (by omega) (by omega) (fun _ q => s_L_telling q) q (fun _ _ q => q.elim) (fun v1375 h1375 q => ?_)
    refine r_istore (lv' := [_, _, _, _, _, _, _, _]) eL_law_1378 (Nat.le_of_ble_eq_true rfl) rfl ?_
    refine r_aload_n eL_law_1380 rfl ?_
    refine r_aload_n eL_law_1381 rfl ?_
    refine r_iload eL_law_1382 rfl ?_
    refine r_iconst (v := (1)) eL_law_1384 (by decide) ?_
    refine r_iadd eL_law_1385 ?_
    refine t_gaS eL_law_1386 q (fun v1386 q => ?_)
    refine r_aload_n eL_law_1387 rfl ?_
    refine r_iload eL_law_1388 rfl ?_
    refine r_iconst (v := (2)) eL_law_1390 (by decide) ?_
    refine r_iadd eL_law_1391 ?_
    refine t_gaS eL_law_1392 q (fun v1392 q => ?_)
    refine r_aload_n eL_law_1393 rfl ?_
    refine r_iload eL_law_1394 rfl ?_
    refine r_iconst (v := (3)) eL_law_1396 (by decide) ?_
    refine r_iadd eL_law_1397 ?_
    refine t_gaS eL_law_1398 q (fun v1398 q => ?_)
    refine t_virtI (As := [_, _, _]) (rest := []) (d' := d + 6 + 6) (ci := 12) eL_law_1399 k_13_192 rfl rfl rfl (by omega) (Nat.le_of_ble_eq_true rfl) (Nat.le_of_ble_eq_true rfl) (fun _ q => s_X12_telling q) q (fun v1399 h1399 q => ?_)
    refine r_istore (lv' := [_, _, _, _, _, _, _, _]) eL_law_1402 (Nat.le_of_ble_eq_true rfl) rfl ?_
    refine r_aload_n eL_law_1404 rfl ?_
    refine t_virtI (As := []) (rest := []) (d' := d + 12 + 0) (ci := 12) eL_law_1405 k_13_141 rfl rfl rfl (by omega) (Nat.le_of_ble_eq_true rfl) (Nat.le_of_ble_eq_true rfl) (fun _ q => s_X12_thrown q) q (fun v1405 h1405 q => ?_)
    refine r_iload eL_law_1408 rfl ?_
    refine t_icmp_eq eL_law_1410 (t := 1415) (by decide) q (fun q => ?_) (fun q => ?_)
    · refine r_iload eL_law_1415 rfl ?_
      refine t_if_ne eL_law_1417 (t := 1432) (by decide) q (fun q => ?_) (fun q => ?_)
      · refine r_goto (t := 3352) eL_law_1432 (by decide) ?_
        refine r_iinc (v := (8)) (lv' := [_, _, _, _, _, _, _, _]) eL_law_3352 rfl (by decide) rfl ?_
        refine r_goto (t := 23) eL_law_3355 (by decide) ?_
        exact hK23 _ _ _ _ _ _ _ _ _ _ _ (by omega) (by omega) q
      refine r_aload_n eL_law_1420 rfl ?_
      refine r_iconst (v := (0)) eL_law_1421 (by decide) ?_
      refine t_gaL eL_law_1422 q (fun v1422 q => ?_)
      refine r_iload eL_law_1423 rfl ?_
      refine r_i2l eL_law_1425 ?_
      refine t_lc_eq eL_law_1426 eL_law_1427 (t := 1432) (by decide) q (fun q => ?_) (fun q => ?_)
      · refine r_goto (t := 3352) eL_law_1432 (by decide) ?_
        refine r_iinc (v := (8)) (lv' := [_, _, _, _, _, _, _, _]) eL_law_3352 rfl (by decide) rfl ?_
        refine r_goto (t := 23) eL_law_3355 (by decide) ?_
        exact hK23 _ _ _ _ _ _ _ _ _ _ _ (by omega) (by omega) q
      refine r_iconst (v := (0)) eL_law_1430 (by decide) ?_
      exact t_rtZ eL_law_1431 rfl q
    refine r_iconst (v := (0)) eL_law_1413 (by decide) ?_
    exact t_rtZ eL_law_1414 rfl q
  refine OK_ite q (fun c14 q => ?_) (fun n14 q => ?_)
  · refine r_tsw 1435 eL_law_40 (by rw [c14]; decide) ?_
    refine r_aload_n eL_law_1435 rfl ?_
    refine r_aload_n eL_law_1436 rfl ?_
    refine r_iload eL_law_1437 rfl ?_
    refine r_iconst (v := (1)) eL_law_1439 (by decide) ?_
    refine r_iadd eL_law_1440 ?_
    refine t_gaS eL_law_1441 q (fun v1441 q => ?_)
    refine t_virtI (As := [_]) (rest := []) (d' := d + 12 + 0) (ci := 11) eL_law_1442 k_13_193 rfl rfl rfl (by omega) (Nat.le_of_ble_eq_true rfl) (Nat.le_of_ble_eq_true rfl) (fun _ q => s_X11_fault q) q (fun v1442 h1442 q => ?_)
    refine r_aload_n eL_law_1445 rfl ?_
    refine r_aload_n eL_law_1446 rfl ?_
    refine r_iload eL_law_1447 rfl ?_
    refine r_iconst (v := (1)) eL_law_1449 (by decide) ?_
    refine r_iadd eL_law_1450 ?_
    refine t_gaS eL_law_1451 q (fun v1451 q => ?_)
    refine t_virtI (As := [_]) (rest := [_]) (d' := d + 12 + 0) (ci := 12) eL_law_1452 k_13_196 rfl rfl rfl (by omega) (Nat.le_of_ble_eq_true rfl) (Nat.le_of_ble_eq_true rfl) (fun _ q => s_X12_fault q) q (fun v1452 h1452 q => ?_)
    refine t_icmp_eq eL_law_1455 (t := 3352) (by decide) q (fun q => ?_) (fun q => ?_)
    · refine r_iinc (v := (8)) (lv' := [_, _, _, _, _, _, _, _]) eL_law_3352 rfl (by decide) rfl ?_
      refine r_goto (t := 23) eL_law_3355 (by decide) ?_
      exact hK23 _ _ _ _ _ _ _ _ _ _ _ (by omega) (by omega) q
    refine r_iconst (v := (0)) eL_law_1458 (by decide) ?_
    exact t_rtZ eL_law_1459 rfl q
  refine OK_ite q (fun c15 q => ?_) (fun n15 q => ?_)
  · refine r_tsw 1460 eL_law_40 (by rw [c15]; decide) ?_
    refine r_aload_n eL_law_1460 rfl ?_
    refine r_aload_n eL_law_1461 rfl ?_
    refine r_iload eL_law_1462 rfl ?_
    refine r_iconst (v := (1)) eL_law_1464 (by decide) ?_
    refine r_iadd eL_law_1465 ?_
    refine t_gaS eL_law_1466 q (fun v1466 q => ?_)
    refine r_aload_n eL_law_1467 rfl ?_
    refine t_statIx (As := [_, _, _]) (rest := []) (d' := d + 10 + 2) (mc := 1) (ms := 6) eL_law_1468 k_13_197 l_13_197 rfl (by omega) (Nat.le_of_ble_eq_true rfl) (Nat.le_of_ble_eq_true rfl) (by omega) (by omega) (fun _ q => s_L_sayings q) q (fun _ _ q => q.elim) (fun v1468 h1468 q => ?_)
    refine r_istore (lv' := [_, _, _, _, _, _, _, _]) eL_law_1471 (Nat.le_of_ble_eq_true rfl) rfl ?_
    refine r_aload_n eL_law_1473 rfl ?_
    refine r_aload_n eL_law_1474 rfl ?_
    refine r_iload eL_law_1475 rfl ?_
    refine r_iconst (v := (1)) eL_law_1477 (by decide) ?_
    refine r_iadd eL_law_1478 ?_
    refine t_gaS eL_law_1479 q (fun v1479 q => ?_)
    refine t_virtI (As := [_]) (rest := []) (d' := d + 9 + 3) (ci := 12) eL_law_1480 k_13_200 rfl rfl rfl (by omega) (Nat.le_of_ble_eq_true rfl) (Nat.le_of_ble_eq_true rfl) (fun _ q => s_X12_sayings q) q (fun v1480 h1480 q => ?_)
    refine r_istore (lv' := [_, _, _, _, _, _, _, _]) eL_law_1483 (Nat.le_of_ble_eq_true rfl) rfl ?_
    refine r_aload_n eL_law_1485 rfl ?_
    refine t_virtI (As := []) (rest := []) (d' := d + 12 + 0) (ci := 12) eL_law_1486 k_13_141 rfl rfl rfl (by omega) (Nat.le_of_ble_eq_true rfl) (Nat.le_of_ble_eq_true rfl) (fun _ q => s_X12_thrown q) q (fun v1486 h1486 q => ?_)
    refine r_iload eL_law_1489 rfl ?_
    refine t_icmp_eq eL_law_1491 (t := 1496) (by decide) q (fun q => ?_) (fun q => ?_)
    · refine r_iload eL_law_1496 rfl ?_
      refine t_if_ne eL_law_1498 (t := 1513) (by decide) q (fun q => ?_) (fun q => ?_)
      · refine r_goto (t := 3352) eL_law_1513 (by decide) ?_
        refine r_iinc (v := (8)) (lv' := [_, _, _, _, _, _, _, _]) eL_law_3352 rfl (by decide) rfl ?_
        refine r_goto (t := 23) eL_law_3355 (by decide) ?_
        exact hK23 _ _ _ _ _ _ _ _ _ _ _ (by omega) (by omega) q
      refine r_aload_n eL_law_1501 rfl ?_
      refine r_iconst (v := (0)) eL_law_1502 (by decide) ?_
      refine t_gaL eL_law_1503 q (fun v1503 q => ?_)
      refine r_iload eL_law_1504 rfl ?_
      refine r_i2l eL_law_1506 ?_
      refine t_lc_eq eL_law_1507 eL_law_1508 (t := 1513) (by decide) q (fun q => ?_) (fun q => ?_)
      · refine r_goto (t := 3352) eL_law_1513 (by decide) ?_
        refine r_iinc (v := (8)) (lv' := [_, _, _, _, _, _, _, _]) eL_law_3352 rfl (by decide) rfl ?_
        refine r_goto (t := 23) eL_law_3355 (by decide) ?_
        exact hK23 _ _ _ _ _ _ _ _ _ _ _ (by omega) (by omega) q
      refine r_iconst (v := (0)) eL_law_1511 (by decide) ?_
      exact t_rtZ eL_law_1512 rfl q
    refine r_iconst (v := (0)) eL_law_1494 (by decide) ?_
    exact t_rtZ eL_law_1495 rfl q
  refine OK_ite q (fun c16 q => ?_) (fun n16 q => ?_)
  · refine r_tsw 1516 eL_law_40 (by rw [c16]; decide) ?_
    refine r_aload_n eL_law_1516 rfl ?_
    refine r_aload_n eL_law_1517 rfl ?_
    refine r_iload eL_law_1518 rfl ?_
    refine r_iconst (v := (1)) eL_law_1520 (by decide) ?_
    refine r_iadd eL_law_1521 ?_
    refine t_gaS eL_law_1522 q (fun v1522 q => ?_)
    refine r_aload_n eL_law_1523 rfl ?_
    refine r_iload eL_law_1524 rfl ?_
    refine r_iconst (v := (2)) eL_law_1526 (by decide) ?_
    refine r_iadd eL_law_1527 ?_
    refine t_gaS eL_law_1528 q (fun v1528 q => ?_)
    refine r_aload_n eL_law_1529 rfl ?_
    refine r_iload eL_law_1530 rfl ?_
    refine r_iconst (v := (3)) eL_law_1532 (by decide) ?_
    refine r_iadd eL_law_1533 ?_
    refine t_gaS eL_law_1534 q (fun v1534 q => ?_)
    refine r_aload_n eL_law_1535 rfl ?_
    refine r_iload eL_law_1536 rfl ?_
    refine r_iconst (v := (4)) eL_law_1538 (by decide) ?_
    refine r_iadd eL_law_1539 ?_
    refine t_gaS eL_law_1540 q (fun v1540 q => ?_)
    refine r_aload_n eL_law_1541 rfl ?_
    refine r_iload eL_law_1542 rfl ?_
    refine r_iconst (v := (5)) eL_law_1544 (by decide) ?_
    refine r_iadd eL_law_1545 ?_
    refine t_gaS eL_law_1546 q (fun v1546 q => ?_)
    refine r_aload_n eL_law_1547 rfl ?_
    refine r_iload eL_law_1548 rfl ?_
    refine r_bipush (v := (6)) eL_law_1550 (by decide) ?_
    refine r_iadd eL_law_1552 ?_
    refine t_gaS eL_law_1553 q (fun v1553 q => ?_)
    refine r_aload_n eL_law_1554 rfl ?_
    refine t_statIx (As := [_, _, _, _, _, _, _, _]) (rest := []) (d' := d + 4 + 8) (mc := 5) (ms := 30) eL_law_1555 k_13_201 l_13_201 rfl (by omega) (Nat.le_of_ble_eq_true rfl) (Nat.le_of_ble_eq_true rfl) (by omega) (by omega) (fun _ q => s_L_leads q) q (fun _ _ q => q.elim) (fun v1555 h1555 q => ?_)
    refine r_istore (lv' := [_, _, _, _, _, _, _, _]) eL_law_1558 (Nat.le_of_ble_eq_true rfl) rfl ?_
    refine r_aload_n eL_law_1560 rfl ?_
    refine r_aload_n eL_law_1561 rfl ?_
    refine r_iload eL_law_1562 rfl ?_
    refine r_iconst (v := (1)) eL_law_1564 (by decide) ?_
    refine r_iadd eL_law_1565 ?_
    refine t_gaS eL_law_1566 q (fun v1566 q => ?_)
    refine r_aload_n eL_law_1567 rfl ?_
    refine r_iload eL_law_1568 rfl ?_
    refine r_iconst (v := (2)) eL_law_1570 (by decide) ?_
    refine r_iadd eL_law_1571 ?_
    refine t_gaS eL_law_1572 q (fun v1572 q => ?_)
    refine r_aload_n eL_law_1573 rfl ?_
    refine r_iload eL_law_1574 rfl ?_
    refine r_iconst (v := (3)) eL_law_1576 (by decide) ?_
    refine r_iadd eL_law_1577 ?_
    refine t_gaS eL_law_1578 q (fun v1578 q => ?_)
    refine r_aload_n eL_law_1579 rfl ?_
    refine r_iload eL_law_1580 rfl ?_
    refine r_iconst (v := (4)) eL_law_1582 (by decide) ?_
    refine r_iadd eL_law_1583 ?_
    refine t_gaS eL_law_1584 q (fun v1584 q => ?_)
    refine r_aload_n eL_law_1585 rfl ?_
    refine r_iload eL_law_1586 rfl ?_
    refine r_iconst (v := (5)) eL_law_1588 (by decide) ?_
    refine r_iadd eL_law_1589 ?_
    refine t_gaS eL_law_1590 q (fun v1590 q => ?_)
    refine r_aload_n eL_law_1591 rfl ?_
    refine r_iload eL_law_1592 rfl ?_
    refine r_bipush (v := (6)) eL_law_1594 (by decide) ?_
    refine r_iadd eL_law_1596 ?_
    refine t_gaS eL_law_1597 q (fun v1597 q => ?_)
    refine t_virtI (As := [_, _, _, _, _, _]) (rest := []) (d' := d + 4 + 8) (ci := 12) eL_law_1598 k_13_203 rfl rfl rfl (by omega) (Nat.le_of_ble_eq_true rfl) (Nat.le_of_ble_eq_true rfl) (fun _ q => s_X12_leads q) q (fun v1598 h1598 q => ?_)
    refine r_istore (lv' := [_, _, _, _, _, _, _, _]) eL_law_1601 (Nat.le_of_ble_eq_true rfl) rfl ?_
    refine r_aload_n eL_law_1603 rfl ?_
    refine t_virtI (As := []) (rest := []) (d' := d + 12 + 0) (ci := 12) eL_law_1604 k_13_141 rfl rfl rfl (by omega) (Nat.le_of_ble_eq_true rfl) (Nat.le_of_ble_eq_true rfl) (fun _ q => s_X12_thrown q) q (fun v1604 h1604 q => ?_)
    refine r_iload eL_law_1607 rfl ?_
    refine t_icmp_eq eL_law_1609 (t := 1614) (by decide) q (fun q => ?_) (fun q => ?_)
    · refine r_iload eL_law_1614 rfl ?_
      refine t_if_ne eL_law_1616 (t := 1631) (by decide) q (fun q => ?_) (fun q => ?_)
      · refine r_goto (t := 3352) eL_law_1631 (by decide) ?_
        refine r_iinc (v := (8)) (lv' := [_, _, _, _, _, _, _, _]) eL_law_3352 rfl (by decide) rfl ?_
        refine r_goto (t := 23) eL_law_3355 (by decide) ?_
        exact hK23 _ _ _ _ _ _ _ _ _ _ _ (by omega) (by omega) q
      refine r_aload_n eL_law_1619 rfl ?_
      refine r_iconst (v := (0)) eL_law_1620 (by decide) ?_
      refine t_gaL eL_law_1621 q (fun v1621 q => ?_)
      refine r_iload eL_law_1622 rfl ?_
      refine r_i2l eL_law_1624 ?_
      refine t_lc_eq eL_law_1625 eL_law_1626 (t := 1631) (by decide) q (fun q => ?_) (fun q => ?_)
      · refine r_goto (t := 3352) eL_law_1631 (by decide) ?_
        refine r_iinc (v := (8)) (lv' := [_, _, _, _, _, _, _, _]) eL_law_3352 rfl (by decide) rfl ?_
        refine r_goto (t := 23) eL_law_3355 (by decide) ?_
        exact hK23 _ _ _ _ _ _ _ _ _ _ _ (by omega) (by omega) q
      refine r_iconst (v := (0)) eL_law_1629 (by decide) ?_
      exact t_rtZ eL_law_1630 rfl q
    refine r_iconst (v := (0)) eL_law_1612 (by decide) ?_
    exact t_rtZ eL_law_1613 rfl q
  refine OK_ite q (fun c17 q => ?_) (fun n17 q => ?_)
  · refine r_tsw 1634 eL_law_40 (by rw [c17]; decide) ?_
    refine r_aload_n eL_law_1634 rfl ?_
    refine r_aload_n eL_law_1635 rfl ?_
    refine r_iload eL_law_1636 rfl ?_
    refine r_iconst (v := (1)) eL_law_1638 (by decide) ?_
    refine r_iadd eL_law_1639 ?_
    refine t_gaS eL_law_1640 q (fun v1640 q => ?_)
    refine r_aload_n eL_law_1641 rfl ?_
    refine r_iload eL_law_1642 rfl ?_
    refine r_iconst (v := (2)) eL_law_1644 (by decide) ?_
    refine r_iadd eL_law_1645 ?_
    refine t_gaS eL_law_1646 q (fun v1646 q => ?_)
    refine r_aload_n eL_law_1647 rfl ?_
    refine r_iload eL_law_1648 rfl ?_
    refine r_iconst (v := (3)) eL_law_1650 (by decide) ?_
    refine r_iadd eL_law_1651 ?_
    refine t_gaS eL_law_1652 q (fun v1652 q => ?_)
    refine r_aload_n eL_law_1653 rfl ?_
    refine r_iload eL_law_1654 rfl ?_
    refine r_iconst (v := (4)) eL_law_1656 (by decide) ?_
    refine r_iadd eL_law_1657 ?_
    refine t_gaS eL_law_1658 q (fun v1658 q => ?_)
    refine r_aload_n eL_law_1659 rfl ?_
    refine t_statIx (As := [_, _, _, _, _, _]) (rest := []) (d' := d + 4 + 8) (mc := 4) (ms := 24) eL_law_1660 k_13_204 l_13_204 rfl (by omega) (Nat.le_of_ble_eq_true rfl) (Nat.le_of_ble_eq_true rfl) (by omega) (by omega) (fun _ q => s_L_holds q) q (fun _ _ q => q.elim) (fun v1660 h1660 q => ?_)
    refine r_istore (lv' := [_, _, _, _, _, _, _, _]) eL_law_1663 (Nat.le_of_ble_eq_true rfl) rfl ?_
    refine r_aload_n eL_law_1665 rfl ?_
    refine r_aload_n eL_law_1666 rfl ?_
    refine r_iload eL_law_1667 rfl ?_
    refine r_iconst (v := (1)) eL_law_1669 (by decide) ?_
    refine r_iadd eL_law_1670 ?_
    refine t_gaS eL_law_1671 q (fun v1671 q => ?_)
    refine r_aload_n eL_law_1672 rfl ?_
    refine r_iload eL_law_1673 rfl ?_
    refine r_iconst (v := (2)) eL_law_1675 (by decide) ?_
    refine r_iadd eL_law_1676 ?_
    refine t_gaS eL_law_1677 q (fun v1677 q => ?_)
    refine r_aload_n eL_law_1678 rfl ?_
    refine r_iload eL_law_1679 rfl ?_
    refine r_iconst (v := (3)) eL_law_1681 (by decide) ?_
    refine r_iadd eL_law_1682 ?_
    refine t_gaS eL_law_1683 q (fun v1683 q => ?_)
    refine r_aload_n eL_law_1684 rfl ?_
    refine r_iload eL_law_1685 rfl ?_
    refine r_iconst (v := (4)) eL_law_1687 (by decide) ?_
    refine r_iadd eL_law_1688 ?_
    refine t_gaS eL_law_1689 q (fun v1689 q => ?_)
    refine t_virtI (As := [_, _, _, _]) (rest := []) (d' := d + 4 + 8) (ci := 12) eL_law_1690 k_13_206 rfl rfl rfl (by omega) (Nat.le_of_ble_eq_true rfl) (Nat.le_of_ble_eq_true rfl) (fun _ q => s_X12_holds q) q (fun v1690 h1690 q => ?_)
    refine r_istore (lv' := [_, _, _, _, _, _, _, _]) eL_law_1693 (Nat.le_of_ble_eq_true rfl) rfl ?_
    refine r_aload_n eL_law_1695 rfl ?_
    refine t_virtI (As := []) (rest := []) (d' := d + 12 + 0) (ci := 12) eL_law_1696 k_13_141 rfl rfl rfl (by omega) (Nat.le_of_ble_eq_true rfl) (Nat.le_of_ble_eq_true rfl) (fun _ q => s_X12_thrown q) q (fun v1696 h1696 q => ?_)
    refine r_iload eL_law_1699 rfl ?_
    refine t_icmp_eq eL_law_1701 (t := 1706) (by decide) q (fun q => ?_) (fun q => ?_)
    · refine r_iload eL_law_1706 rfl ?_
      refine t_if_ne eL_law_1708 (t := 1723) (by decide) q (fun q => ?_) (fun q => ?_)
      · refine r_goto (t := 3352) eL_law_1723 (by decide) ?_
        refine r_iinc (v := (8)) (lv' := [_, _, _, _, _, _, _, _]) eL_law_3352 rfl (by decide) rfl ?_
        refine r_goto (t := 23) eL_law_3355 (by decide) ?_
        exact hK23 _ _ _ _ _ _ _ _ _ _ _ (by omega) (by omega) q
      refine r_aload_n eL_law_1711 rfl ?_
      refine r_iconst (v := (0)) eL_law_1712 (by decide) ?_
      refine t_gaL eL_law_1713 q (fun v1713 q => ?_)
      refine r_iload eL_law_1714 rfl ?_
      refine r_i2l eL_law_1716 ?_
      refine t_lc_eq eL_law_1717 eL_law_1718 (t := 1723) (by decide) q (fun q => ?_) (fun q => ?_)
      · refine r_goto (t := 3352) eL_law_1723 (by decide) ?_
        refine r_iinc (v := (8)) (lv' := [_, _, _, _, _, _, _, _]) eL_law_3352 rfl (by decide) rfl ?_
        refine r_goto (t := 23) eL_law_3355 (by decide) ?_
        exact hK23 _ _ _ _ _ _ _ _ _ _ _ (by omega) (by omega) q
      refine r_iconst (v := (0)) eL_law_1721 (by decide) ?_
      exact t_rtZ eL_law_1722 rfl q
    refine r_iconst (v := (0)) eL_law_1704 (by decide) ?_
    exact t_rtZ eL_law_1705 rfl q
  refine OK_ite q (fun c18 q => ?_) (fun n18 q => ?_)
  · refine r_tsw 1726 eL_law_40 (by rw [c18]; decide) ?_
    refine r_aload_n eL_law_1726 rfl ?_
    refine r_aload_n eL_law_1727 rfl ?_
    refine r_iload eL_law_1728 rfl ?_
    refine r_iconst (v := (1)) eL_law_1730 (by decide) ?_
    refine r_iadd eL_law_1731 ?_
    refine t_gaS eL_law_1732 q (fun v1732 q => ?_)
    refine r_aload_n eL_law_1733 rfl ?_
    refine r_iload eL_law_1734 rfl ?_
    refine r_iconst (v := (2)) eL_law_1736 (by decide) ?_
    refine r_iadd eL_law_1737 ?_
    refine t_gaS eL_law_1738 q (fun v1738 q => ?_)
    refine r_aload_n eL_law_1739 rfl ?_
    refine r_iload eL_law_1740 rfl ?_
    refine r_iconst (v := (3)) eL_law_1742 (by decide) ?_
    refine r_iadd eL_law_1743 ?_
    refine t_gaS eL_law_1744 q (fun v1744 q => ?_)
    refine r_aload_n eL_law_1745 rfl ?_
    refine r_iload eL_law_1746 rfl ?_
    refine r_iconst (v := (4)) eL_law_1748 (by decide) ?_
    refine r_iadd eL_law_1749 ?_
    refine t_gaS eL_law_1750 q (fun v1750 q => ?_)
    refine r_aload_n eL_law_1751 rfl ?_
    refine r_iload eL_law_1752 rfl ?_
    refine r_iconst (v := (5)) eL_law_1754 (by decide) ?_
    refine r_iadd eL_law_1755 ?_
    refine t_gaS eL_law_1756 q (fun v1756 q => ?_)
    refine r_aload_n eL_law_1757 rfl ?_
    refine t_statIx (As := [_, _, _, _, _, _, _]) (rest := []) (d' := d + 3 + 9) (mc := 4) (ms := 24) eL_law_1758 k_13_207 l_13_207 rfl (by omega) (Nat.le_of_ble_eq_true rfl) (Nat.le_of_ble_eq_true rfl) (by omega) (by omega) (fun _ q => s_L_end q) q (fun _ _ q => q.elim) (fun v1758 h1758 q => ?_)
    refine r_istore (lv' := [_, _, _, _, _, _, _, _]) eL_law_1761 (Nat.le_of_ble_eq_true rfl) rfl ?_
    refine r_aload_n eL_law_1763 rfl ?_
    refine r_aload_n eL_law_1764 rfl ?_
    refine r_iload eL_law_1765 rfl ?_
    refine r_iconst (v := (1)) eL_law_1767 (by decide) ?_
    refine r_iadd eL_law_1768 ?_
    refine t_gaS eL_law_1769 q (fun v1769 q => ?_)
    refine r_aload_n eL_law_1770 rfl ?_
    refine r_iload eL_law_1771 rfl ?_
    refine r_iconst (v := (2)) eL_law_1773 (by decide) ?_
    refine r_iadd eL_law_1774 ?_
    refine t_gaS eL_law_1775 q (fun v1775 q => ?_)
    refine r_aload_n eL_law_1776 rfl ?_
    refine r_iload eL_law_1777 rfl ?_
    refine r_iconst (v := (3)) eL_law_1779 (by decide) ?_
    refine r_iadd eL_law_1780 ?_
    refine t_gaS eL_law_1781 q (fun v1781 q => ?_)
    refine r_aload_n eL_law_1782 rfl ?_
    refine r_iload eL_law_1783 rfl ?_
    refine r_iconst (v := (4)) eL_law_1785 (by decide) ?_
    refine r_iadd eL_law_1786 ?_
    refine t_gaS eL_law_1787 q (fun v1787 q => ?_)
    refine r_aload_n eL_law_1788 rfl ?_
    refine r_iload eL_law_1789 rfl ?_
    refine r_iconst (v := (5)) eL_law_1791 (by decide) ?_
    refine r_iadd eL_law_1792 ?_
    refine t_gaS eL_law_1793 q (fun v1793 q => ?_)
    refine t_virtI (As := [_, _, _, _, _]) (rest := []) (d' := d + 4 + 8) (ci := 12) eL_law_1794 k_13_210 rfl rfl rfl (by omega) (Nat.le_of_ble_eq_true rfl) (Nat.le_of_ble_eq_true rfl) (fun _ q => s_X12_end q) q (fun v1794 h1794 q => ?_)
    refine r_istore (lv' := [_, _, _, _, _, _, _, _]) eL_law_1797 (Nat.le_of_ble_eq_true rfl) rfl ?_
    refine r_aload_n eL_law_1799 rfl ?_
    refine t_virtI (As := []) (rest := []) (d' := d + 12 + 0) (ci := 12) eL_law_1800 k_13_141 rfl rfl rfl (by omega) (Nat.le_of_ble_eq_true rfl) (Nat.le_of_ble_eq_true rfl) (fun _ q => s_X12_thrown q) q (fun v1800 h1800 q => ?_)
    refine r_iload eL_law_1803 rfl ?_
    refine t_icmp_eq eL_law_1805 (t := 1810) (by decide) q (fun q => ?_) (fun q => ?_)
    · refine r_iload eL_law_1810 rfl ?_
      refine t_if_ne eL_law_1812 (t := 1827) (by decide) q (fun q => ?_) (fun q => ?_)
      · refine r_goto (t := 3352) eL_law_1827 (by decide) ?_
        refine r_iinc (v := (8)) (lv' := [_, _, _, _, _, _, _, _]) eL_law_3352 rfl (by decide) rfl ?_
        refine r_goto (t := 23) eL_law_3355 (by decide) ?_
        exact hK23 _ _ _ _ _ _ _ _ _ _ _ (by omega) (by omega) q
      refine r_aload_n eL_law_1815 rfl ?_
      refine r_iconst (v := (0)) eL_law_1816 (by decide) ?_
      refine t_gaL eL_law_1817 q (fun v1817 q => ?_)
      refine r_iload eL_law_1818 rfl ?_
      refine r_i2l eL_law_1820 ?_
      refine t_lc_eq eL_law_1821 eL_law_1822 (t := 1827) (by decide) q (fun q => ?_) (fun q => ?_)
      · refine r_goto (t := 3352) eL_law_1827 (by decide) ?_
        refine r_iinc (v := (8)) (lv' := [_, _, _, _, _, _, _, _]) eL_law_3352 rfl (by decide) rfl ?_
        refine r_goto (t := 23) eL_law_3355 (by decide) ?_
        exact hK23 _ _ _ _ _ _ _ _ _ _ _ (by omega) (by omega) q
      refine r_iconst (v := (0)) eL_law_1825 (by decide) ?_
      exact t_rtZ eL_law_1826 rfl q
    refine r_iconst (v := (0)) eL_law_1808 (by decide) ?_
    exact t_rtZ eL_law_1809 rfl q
  refine OK_ite q (fun c19 q => ?_) (fun n19 q => ?_)
  · refine r_tsw 1830 eL_law_40 (by rw [c19]; decide) ?_
    refine r_aload_n eL_law_1830 rfl ?_
    refine r_aload_n eL_law_1831 rfl ?_
    refine r_iload eL_law_1832 rfl ?_
    refine r_iconst (v := (1)) eL_law_1834 (by decide) ?_
    refine r_iadd eL_law_1835 ?_
    refine t_gaS eL_law_1836 q (fun v1836 q => ?_)
    refine r_aload_n eL_law_1837 rfl ?_
    refine r_iload eL_law_1838 rfl ?_
    refine r_iconst (v := (2)) eL_law_1840 (by decide) ?_
    refine r_iadd eL_law_1841 ?_
    refine t_gaS eL_law_1842 q (fun v1842 q => ?_)
    refine r_aload_n eL_law_1843 rfl ?_
    refine r_iload eL_law_1844 rfl ?_
    refine r_iconst (v := (3)) eL_law_1846 (by decide) ?_
    refine r_iadd eL_law_1847 ?_
    refine t_gaS eL_law_1848 q (fun v1848 q => ?_)
    refine r_aload_n eL_law_1849 rfl ?_
    refine r_iload eL_law_1850 rfl ?_
    refine r_iconst (v := (4)) eL_law_1852 (by decide) ?_
    refine r_iadd eL_law_1853 ?_
    refine t_gaS eL_law_1854 q (fun v1854 q => ?_)
    refine r_aload_n eL_law_1855 rfl ?_
    refine t_statIx (As := [_, _, _, _, _, _]) (rest := []) (d' := d + 3 + 9) (mc := 4) (ms := 24) eL_law_1856 k_13_211 l_13_211 rfl (by omega) (Nat.le_of_ble_eq_true rfl) (Nat.le_of_ble_eq_true rfl) (by omega) (by omega) (fun _ q => s_L_right q) q (fun _ _ q => q.elim) (fun v1856 h1856 q => ?_)
    refine r_istore (lv' := [_, _, _, _, _, _, _, _]) eL_law_1859 (Nat.le_of_ble_eq_true rfl) rfl ?_
    refine r_aload_n eL_law_1861 rfl ?_
    refine r_aload_n eL_law_1862 rfl ?_
    refine r_iload eL_law_1863 rfl ?_
    refine r_iconst (v := (1)) eL_law_1865 (by decide) ?_
    refine r_iadd eL_law_1866 ?_
    refine t_gaS eL_law_1867 q (fun v1867 q => ?_)
    refine r_aload_n eL_law_1868 rfl ?_
    refine r_iload eL_law_1869 rfl ?_
    refine r_iconst (v := (2)) eL_law_1871 (by decide) ?_
    refine r_iadd eL_law_1872 ?_
    refine t_gaS eL_law_1873 q (fun v1873 q => ?_)
    refine r_aload_n eL_law_1874 rfl ?_
    refine r_iload eL_law_1875 rfl ?_
    refine r_iconst (v := (3)) eL_law_1877 (by decide) ?_
    refine r_iadd eL_law_1878 ?_
    refine t_gaS eL_law_1879 q (fun v1879 q => ?_)
    refine r_aload_n eL_law_1880 rfl ?_
    refine r_iload eL_law_1881 rfl ?_
    refine r_iconst (v := (4)) eL_law_1883 (by decide) ?_
    refine r_iadd eL_law_1884 ?_
    refine t_gaS eL_law_1885 q (fun v1885 q => ?_)
    refine t_virtI (As := [_, _, _, _]) (rest := []) (d' := d + 3 + 9) (ci := 12) eL_law_1886 k_13_213 rfl rfl rfl (by omega) (Nat.le_of_ble_eq_true rfl) (Nat.le_of_ble_eq_true rfl) (fun _ q => s_X12_right q) q (fun v1886 h1886 q => ?_)
    refine r_istore (lv' := [_, _, _, _, _, _, _, _]) eL_law_1889 (Nat.le_of_ble_eq_true rfl) rfl ?_
    refine r_aload_n eL_law_1891 rfl ?_
    refine t_virtI (As := []) (rest := []) (d' := d + 12 + 0) (ci := 12) eL_law_1892 k_13_141 rfl rfl rfl (by omega) (Nat.le_of_ble_eq_true rfl) (Nat.le_of_ble_eq_true rfl) (fun _ q => s_X12_thrown q) q (fun v1892 h1892 q => ?_)
    refine r_iload eL_law_1895 rfl ?_
    refine t_icmp_eq eL_law_1897 (t := 1902) (by decide) q (fun q => ?_) (fun q => ?_)
    · refine r_iload eL_law_1902 rfl ?_
      refine t_if_ne eL_law_1904 (t := 1926) (by decide) q (fun q => ?_) (fun q => ?_)
      · refine r_goto (t := 3352) eL_law_1926 (by decide) ?_
        refine r_iinc (v := (8)) (lv' := [_, _, _, _, _, _, _, _]) eL_law_3352 rfl (by decide) rfl ?_
        refine r_goto (t := 23) eL_law_3355 (by decide) ?_
        exact hK23 _ _ _ _ _ _ _ _ _ _ _ (by omega) (by omega) q
      refine r_aload_n eL_law_1907 rfl ?_
      refine r_iconst (v := (0)) eL_law_1908 (by decide) ?_
      refine t_gaL eL_law_1909 q (fun v1909 q => ?_)
      refine r_iload eL_law_1910 rfl ?_
      refine t_if_eq eL_law_1912 (t := 1919) (by decide) q (fun q => ?_) (fun q => ?_)
      · refine r_lconst (v := 0) eL_law_1919 rfl ?_
        exact sJ_L_law_1920 (fun b0 b1 b2 b3 b4 b5 b6 b7 b8 b9 b10 g1 g2 q => hK23 b0 b1 b2 b3 b4 b5 b6 b7 b8 b9 b10 (by omega) (by omega) q) q
      refine r_lconst (v := 1) eL_law_1915 rfl ?_
      refine r_goto (t := 1920) eL_law_1916 (by decide) ?_
      exact sJ_L_law_1920 (fun b0 b1 b2 b3 b4 b5 b6 b7 b8 b9 b10 g1 g2 q => hK23 b0 b1 b2 b3 b4 b5 b6 b7 b8 b9 b10 (by omega) (by omega) q) q
    refine r_iconst (v := (0)) eL_law_1900 (by decide) ?_
    exact t_rtZ eL_law_1901 rfl q
  refine OK_ite q (fun c20 q => ?_) (fun n20 q => ?_)
  · refine r_tsw 1929 eL_law_40 (by rw [c20]; decide) ?_
    refine r_aload_n eL_law_1929 rfl ?_
    refine r_aload_n eL_law_1930 rfl ?_
    refine r_iload eL_law_1931 rfl ?_
    refine r_iconst (v := (1)) eL_law_1933 (by decide) ?_
    refine r_iadd eL_law_1934 ?_
    refine t_gaS eL_law_1935 q (fun v1935 q => ?_)
    refine r_aload_n eL_law_1936 rfl ?_
    refine r_iload eL_law_1937 rfl ?_
    refine r_iconst (v := (2)) eL_law_1939 (by decide) ?_
    refine r_iadd eL_law_1940 ?_
    refine t_gaS eL_law_1941 q (fun v1941 q => ?_)
    refine r_aload_n eL_law_1942 rfl ?_
    refine r_iload eL_law_1943 rfl ?_
    refine r_iconst (v := (3)) eL_law_1945 (by decide) ?_
    refine r_iadd eL_law_1946 ?_
    refine t_gaS eL_law_1947 q (fun v1947 q => ?_)
    refine r_aload_n eL_law_1948 rfl ?_
    refine r_iload eL_law_1949 rfl ?_
    refine r_iconst (v := (4)) eL_law_1951 (by decide) ?_
    refine r_iadd eL_law_1952 ?_
    refine t_gaS eL_law_1953 q (fun v1953 q => ?_)
    refine r_aload_n eL_law_1954 rfl ?_
    refine r_iload eL_law_1955 rfl ?_
    refine r_iconst (v := (5)) eL_law_1957 (by decide) ?_
    refine r_iadd eL_law_1958 ?_
    refine t_gaS eL_law_1959 q (fun v1959 q => ?_)
    refine r_aload_n eL_law_1960 rfl ?_
    refine t_statIx (As := [_, _, _, _, _, _, _]) (rest := []) (d' := d + 4 + 8) (mc := 5) (ms := 30) eL_law_1961 k_13_214 l_13_214 rfl (by omega) (Nat.le_of_ble_eq_true rfl) (Nat.le_of_ble_eq_true rfl) (by omega) (by omega) (fun _ q => s_L_odds q) q (fun _ _ q => q.elim) (fun v1961 h1961 q => ?_)
    refine r_istore (lv' := [_, _, _, _, _, _, _, _]) eL_law_1964 (Nat.le_of_ble_eq_true rfl) rfl ?_
    refine r_aload_n eL_law_1966 rfl ?_
    refine r_aload_n eL_law_1967 rfl ?_
    refine r_iload eL_law_1968 rfl ?_
    refine r_iconst (v := (1)) eL_law_1970 (by decide) ?_
    refine r_iadd eL_law_1971 ?_
    refine t_gaS eL_law_1972 q (fun v1972 q => ?_)
    refine r_aload_n eL_law_1973 rfl ?_
    refine r_iload eL_law_1974 rfl ?_
    refine r_iconst (v := (2)) eL_law_1976 (by decide) ?_
    refine r_iadd eL_law_1977 ?_
    refine t_gaS eL_law_1978 q (fun v1978 q => ?_)
    refine r_aload_n eL_law_1979 rfl ?_
    refine r_iload eL_law_1980 rfl ?_
    refine r_iconst (v := (3)) eL_law_1982 (by decide) ?_
    refine r_iadd eL_law_1983 ?_
    refine t_gaS eL_law_1984 q (fun v1984 q => ?_)
    refine r_aload_n eL_law_1985 rfl ?_
    refine r_iload eL_law_1986 rfl ?_
    refine r_iconst (v := (4)) eL_law_1988 (by decide) ?_
    refine r_iadd eL_law_1989 ?_
    refine t_gaS eL_law_1990 q (fun v1990 q => ?_)
    refine r_aload_n eL_law_1991 rfl ?_
    refine r_iload eL_law_1992 rfl ?_
    refine r_iconst (v := (5)) eL_law_1994 (by decide) ?_
    refine r_iadd eL_law_1995 ?_
    refine t_gaS eL_law_1996 q (fun v1996 q => ?_)
    refine t_virtI (As := [_, _, _, _, _]) (rest := []) (d' := d + 3 + 9) (ci := 12) eL_law_1997 k_13_216 rfl rfl rfl (by omega) (Nat.le_of_ble_eq_true rfl) (Nat.le_of_ble_eq_true rfl) (fun _ q => s_X12_odds q) q (fun v1997 h1997 q => ?_)
    refine r_istore (lv' := [_, _, _, _, _, _, _, _]) eL_law_2000 (Nat.le_of_ble_eq_true rfl) rfl ?_
    refine r_aload_n eL_law_2002 rfl ?_
    refine t_virtI (As := []) (rest := []) (d' := d + 12 + 0) (ci := 12) eL_law_2003 k_13_141 rfl rfl rfl (by omega) (Nat.le_of_ble_eq_true rfl) (Nat.le_of_ble_eq_true rfl) (fun _ q => s_X12_thrown q) q (fun v2003 h2003 q => ?_)
    refine r_iload eL_law_2006 rfl ?_
    refine t_icmp_eq eL_law_2008 (t := 2013) (by decide) q (fun q => ?_) (fun q => ?_)
    · refine r_iload eL_law_2013 rfl ?_
      refine t_if_ne eL_law_2015 (t := 2030) (by decide) q (fun q => ?_) (fun q => ?_)
      · refine r_goto (t := 3352) eL_law_2030 (by decide) ?_
        refine r_iinc (v := (8)) (lv' := [_, _, _, _, _, _, _, _]) eL_law_3352 rfl (by decide) rfl ?_
        refine r_goto (t := 23) eL_law_3355 (by decide) ?_
        exact hK23 _ _ _ _ _ _ _ _ _ _ _ (by omega) (by omega) q
      refine r_aload_n eL_law_2018 rfl ?_
      refine r_iconst (v := (0)) eL_law_2019 (by decide) ?_
      refine t_gaL eL_law_2020 q (fun v2020 q => ?_)
      refine r_iload eL_law_2021 rfl ?_
      refine r_i2l eL_law_2023 ?_
      refine t_lc_eq eL_law_2024 eL_law_2025 (t := 2030) (by decide) q (fun q => ?_) (fun q => ?_)
      · refine r_goto (t := 3352) eL_law_2030 (by decide) ?_
        refine r_iinc (v := (8)) (lv' := [_, _, _, _, _, _, _, _]) eL_law_3352 rfl (by decide) rfl ?_
        refine r_goto (t := 23) eL_law_3355 (by decide) ?_
        exact hK23 _ _ _ _ _ _ _ _ _ _ _ (by omega) (by omega) q
      refine r_iconst (v := (0)) eL_law_2028 (by decide) ?_
      exact t_rtZ eL_law_2029 rfl q
    refine r_iconst (v := (0)) eL_law_2011 (by decide) ?_
    exact t_rtZ eL_law_2012 rfl q
  refine OK_ite q (fun c21 q => ?_) (fun n21 q => ?_)
  · refine r_tsw 2033 eL_law_40 (by rw [c21]; decide) ?_
    refine r_aload_n eL_law_2033 rfl ?_
    refine r_aload_n eL_law_2034 rfl ?_
    refine r_iload eL_law_2035 rfl ?_
    refine r_iconst (v := (1)) eL_law_2037 (by decide) ?_
    refine r_iadd eL_law_2038 ?_
    refine t_gaS eL_law_2039 q (fun v2039 q => ?_)
    refine r_aload_n eL_law_2040 rfl ?_
    refine r_iload eL_law_2041 rfl ?_
    refine r_iconst (v := (2)) eL_law_2043 (by decide) ?_
    refine r_iadd eL_law_2044 ?_
    refine t_gaS eL_law_2045 q (fun v2045 q => ?_)
    refine r_aload_n eL_law_2046 rfl ?_
    refine r_iload eL_law_2047 rfl ?_
    refine r_iconst (v := (3)) eL_law_2049 (by decide) ?_
    refine r_iadd eL_law_2050 ?_
    refine t_gaS eL_law_2051 q (fun v2051 q => ?_)
    refine r_aload_n eL_law_2052 rfl ?_
    refine r_iload eL_law_2053 rfl ?_
    refine r_iconst (v := (4)) eL_law_2055 (by decide) ?_
    refine r_iadd eL_law_2056 ?_
    refine t_gaS eL_law_2057 q (fun v2057 q => ?_)
    refine r_aload_n eL_law_2058 rfl ?_
    refine t_statIx (As := [_, _, _, _, _, _]) (rest := []) (d' := d + 3 + 9) (mc := 4) (ms := 24) eL_law_2059 k_13_217 l_13_217 rfl (by omega) (Nat.le_of_ble_eq_true rfl) (Nat.le_of_ble_eq_true rfl) (by omega) (by omega) (fun _ q => s_L_parts q) q (fun _ _ q => q.elim) (fun v2059 h2059 q => ?_)
    refine r_istore (lv' := [_, _, _, _, _, _, _, _]) eL_law_2062 (Nat.le_of_ble_eq_true rfl) rfl ?_
    refine r_aload_n eL_law_2064 rfl ?_
    refine r_aload_n eL_law_2065 rfl ?_
    refine r_iload eL_law_2066 rfl ?_
    refine r_iconst (v := (1)) eL_law_2068 (by decide) ?_
    refine r_iadd eL_law_2069 ?_
    refine t_gaS eL_law_2070 q (fun v2070 q => ?_)
    refine r_aload_n eL_law_2071 rfl ?_
    refine r_iload eL_law_2072 rfl ?_
    refine r_iconst (v := (2)) eL_law_2074 (by decide) ?_
    refine r_iadd eL_law_2075 ?_
    refine t_gaS eL_law_2076 q (fun v2076 q => ?_)
    refine r_aload_n eL_law_2077 rfl ?_
    refine r_iload eL_law_2078 rfl ?_
    refine r_iconst (v := (3)) eL_law_2080 (by decide) ?_
    refine r_iadd eL_law_2081 ?_
    refine t_gaS eL_law_2082 q (fun v2082 q => ?_)
    refine r_aload_n eL_law_2083 rfl ?_
    refine r_iload eL_law_2084 rfl ?_
    refine r_iconst (v := (4)) eL_law_2086 (by decide) ?_
    refine r_iadd eL_law_2087 ?_
    refine t_gaS eL_law_2088 q (fun v2088 q => ?_)
    refine t_virtI (As := [_, _, _, _]) (rest := []) (d' := d + 4 + 8) (ci := 12) eL_law_2089 k_13_219 rfl rfl rfl (by omega) (Nat.le_of_ble_eq_true rfl) (Nat.le_of_ble_eq_true rfl) (fun _ q => s_X12_parts q) q (fun v2089 h2089 q => ?_)
    refine r_istore (lv' := [_, _, _, _, _, _, _, _]) eL_law_2092 (Nat.le_of_ble_eq_true rfl) rfl ?_
    refine r_aload_n eL_law_2094 rfl ?_
    refine t_virtI (As := []) (rest := []) (d' := d + 12 + 0) (ci := 12) eL_law_2095 k_13_141 rfl rfl rfl (by omega) (Nat.le_of_ble_eq_true rfl) (Nat.le_of_ble_eq_true rfl) (fun _ q => s_X12_thrown q) q (fun v2095 h2095 q => ?_)
    refine r_iload eL_law_2098 rfl ?_
    refine t_icmp_eq eL_law_2100 (t := 2105) (by decide) q (fun q => ?_) (fun q => ?_)
    · refine r_iload eL_law_2105 rfl ?_
      refine t_if_ne eL_law_2107 (t := 2122) (by decide) q (fun q => ?_) (fun q => ?_)
      · refine r_goto (t := 3352) eL_law_2122 (by decide) ?_
        refine r_iinc (v := (8)) (lv' := [_, _, _, _, _, _, _, _]) eL_law_3352 rfl (by decide) rfl ?_
        refine r_goto (t := 23) eL_law_3355 (by decide) ?_
        exact hK23 _ _ _ _ _ _ _ _ _ _ _ (by omega) (by omega) q
      refine r_aload_n eL_law_2110 rfl ?_
      refine r_iconst (v := (0)) eL_law_2111 (by decide) ?_
      refine t_gaL eL_law_2112 q (fun v2112 q => ?_)
      refine r_iload eL_law_2113 rfl ?_
      refine r_i2l eL_law_2115 ?_
      refine t_lc_eq eL_law_2116 eL_law_2117 (t := 2122) (by decide) q (fun q => ?_) (fun q => ?_)
      · refine r_goto (t := 3352) eL_law_2122 (by decide) ?_
        refine r_iinc (v := (8)) (lv' := [_, _, _, _, _, _, _, _]) eL_law_3352 rfl (by decide) rfl ?_
        refine r_goto (t := 23) eL_law_3355 (by decide) ?_
        exact hK23 _ _ _ _ _ _ _ _ _ _ _ (by omega) (by omega) q
      refine r_iconst (v := (0)) eL_law_2120 (by decide) ?_
      exact t_rtZ eL_law_2121 rfl q
    refine r_iconst (v := (0)) eL_law_2103 (by decide) ?_
    exact t_rtZ eL_law_2104 rfl q
  refine OK_ite q (fun c22 q => ?_) (fun n22 q => ?_)
  · refine r_tsw 2125 eL_law_40 (by rw [c22]; decide) ?_
    refine r_aload_n eL_law_2125 rfl ?_
    refine r_aload_n eL_law_2126 rfl ?_
    refine r_iload eL_law_2127 rfl ?_
    refine r_iconst (v := (1)) eL_law_2129 (by decide) ?_
    refine r_iadd eL_law_2130 ?_
    refine t_gaS eL_law_2131 q (fun v2131 q => ?_)
    refine r_aload_n eL_law_2132 rfl ?_
    refine r_iload eL_law_2133 rfl ?_
    refine r_iconst (v := (2)) eL_law_2135 (by decide) ?_
    refine r_iadd eL_law_2136 ?_
    refine t_gaS eL_law_2137 q (fun v2137 q => ?_)
    refine r_aload_n eL_law_2138 rfl ?_
    refine r_iload eL_law_2139 rfl ?_
    refine r_iconst (v := (3)) eL_law_2141 (by decide) ?_
    refine r_iadd eL_law_2142 ?_
    refine t_gaS eL_law_2143 q (fun v2143 q => ?_)
    refine r_aload_n eL_law_2144 rfl ?_
    refine r_iload eL_law_2145 rfl ?_
    refine r_iconst (v := (4)) eL_law_2147 (by decide) ?_
    refine r_iadd eL_law_2148 ?_
    refine t_gaS eL_law_2149 q (fun v2149 q => ?_)
    refine r_aload_n eL_law_2150 rfl ?_
    refine r_iload eL_law_2151 rfl ?_
    refine r_iconst (v := (5)) eL_law_2153 (by decide) ?_
    refine r_iadd eL_law_2154 ?_
    refine t_gaS eL_law_2155 q (fun v2155 q => ?_)
    refine t_if_eq eL_law_2156 (t := 2163) (by decide) q (fun q => ?_) (fun q => ?_)
    · refine r_iconst (v := (0)) eL_law_2163 (by decide) ?_
      exact sJ_L_law_2164 (by omega) (by omega) (fun b0 b1 b2 b3 b4 b5 b6 b7 b8 b9 b10 g1 g2 q => hK23 b0 b1 b2 b3 b4 b5 b6 b7 b8 b9 b10 (by omega) (by omega) q) q
    refine r_iconst (v := (1)) eL_law_2159 (by decide) ?_
    refine r_goto (t := 2164) eL_law_2160 (by decide) ?_
    exact sJ_L_law_2164 (by omega) (by omega) (fun b0 b1 b2 b3 b4 b5 b6 b7 b8 b9 b10 g1 g2 q => hK23 b0 b1 b2 b3 b4 b5 b6 b7 b8 b9 b10 (by omega) (by omega) q) q
  refine OK_ite q (fun c23 q => ?_) (fun n23 q => ?_)
  · refine r_tsw 2245 eL_law_40 (by rw [c23]; decide) ?_
    refine r_aload_n eL_law_2245 rfl ?_
    refine r_aload_n eL_law_2246 rfl ?_
    refine r_iload eL_law_2247 rfl ?_
    refine r_iconst (v := (1)) eL_law_2249 (by decide) ?_
    refine r_iadd eL_law_2250 ?_
    refine t_gaS eL_law_2251 q (fun v2251 q => ?_)
    refine r_aload_n eL_law_2252 rfl ?_
    refine r_iload eL_law_2253 rfl ?_
    refine r_iconst (v := (2)) eL_law_2255 (by decide) ?_
    refine r_iadd eL_law_2256 ?_
    refine t_gaS eL_law_2257 q (fun v2257 q => ?_)
    refine r_aload_n eL_law_2258 rfl ?_
    refine r_iload eL_law_2259 rfl ?_
    refine r_iconst (v := (3)) eL_law_2261 (by decide) ?_
    refine r_iadd eL_law_2262 ?_
    refine t_gaS eL_law_2263 q (fun v2263 q => ?_)
    refine r_aload_n eL_law_2264 rfl ?_
    refine r_iload eL_law_2265 rfl ?_
    refine r_iconst (v := (4)) eL_law_2267 (by decide) ?_
    refine r_iadd eL_law_2268 ?_
    refine t_gaS eL_law_2269 q (fun v2269 q => ?_)
    refine r_aload_n eL_law_2270 rfl ?_
    refine t_statIx (As := [_, _, _, _, _, _]) (rest := []) (d' := d + 3 + 9) (mc := 4) (ms := 24) eL_law_2271 k_13_223 l_13_223 rfl (by omega) (Nat.le_of_ble_eq_true rfl) (Nat.le_of_ble_eq_true rfl) (by omega) (by omega) (fun _ q => s_L_years q) q (fun _ _ q => q.elim) (fun v2271 h2271 q => ?_)
    refine r_istore (lv' := [_, _, _, _, _, _, _, _]) eL_law_2274 (Nat.le_of_ble_eq_true rfl) rfl ?_
    refine r_aload_n eL_law_2276 rfl ?_
    refine r_aload_n eL_law_2277 rfl ?_
    refine r_iload eL_law_2278 rfl ?_
    refine r_iconst (v := (1)) eL_law_2280 (by decide) ?_
    refine r_iadd eL_law_2281 ?_
    refine t_gaS eL_law_2282 q (fun v2282 q => ?_)
    refine r_aload_n eL_law_2283 rfl ?_
    refine r_iload eL_law_2284 rfl ?_
    refine r_iconst (v := (2)) eL_law_2286 (by decide) ?_
    refine r_iadd eL_law_2287 ?_
    refine t_gaS eL_law_2288 q (fun v2288 q => ?_)
    refine r_aload_n eL_law_2289 rfl ?_
    refine r_iload eL_law_2290 rfl ?_
    refine r_iconst (v := (3)) eL_law_2292 (by decide) ?_
    refine r_iadd eL_law_2293 ?_
    refine t_gaS eL_law_2294 q (fun v2294 q => ?_)
    refine r_aload_n eL_law_2295 rfl ?_
    refine r_iload eL_law_2296 rfl ?_
    refine r_iconst (v := (4)) eL_law_2298 (by decide) ?_
    refine r_iadd eL_law_2299 ?_
    refine t_gaS eL_law_2300 q (fun v2300 q => ?_)
    refine t_virtI (As := [_, _, _, _]) (rest := []) (d' := d + 3 + 9) (ci := 12) eL_law_2301 k_13_225 rfl rfl rfl (by omega) (Nat.le_of_ble_eq_true rfl) (Nat.le_of_ble_eq_true rfl) (fun _ q => s_X12_years q) q (fun v2301 h2301 q => ?_)
    refine r_istore (lv' := [_, _, _, _, _, _, _, _]) eL_law_2304 (Nat.le_of_ble_eq_true rfl) rfl ?_
    refine r_aload_n eL_law_2306 rfl ?_
    refine t_virtI (As := []) (rest := []) (d' := d + 12 + 0) (ci := 12) eL_law_2307 k_13_141 rfl rfl rfl (by omega) (Nat.le_of_ble_eq_true rfl) (Nat.le_of_ble_eq_true rfl) (fun _ q => s_X12_thrown q) q (fun v2307 h2307 q => ?_)
    refine r_iload eL_law_2310 rfl ?_
    refine t_icmp_eq eL_law_2312 (t := 2317) (by decide) q (fun q => ?_) (fun q => ?_)
    · refine r_iload eL_law_2317 rfl ?_
      refine t_if_ne eL_law_2319 (t := 2334) (by decide) q (fun q => ?_) (fun q => ?_)
      · refine r_goto (t := 3352) eL_law_2334 (by decide) ?_
        refine r_iinc (v := (8)) (lv' := [_, _, _, _, _, _, _, _]) eL_law_3352 rfl (by decide) rfl ?_
        refine r_goto (t := 23) eL_law_3355 (by decide) ?_
        exact hK23 _ _ _ _ _ _ _ _ _ _ _ (by omega) (by omega) q
      refine r_aload_n eL_law_2322 rfl ?_
      refine r_iconst (v := (0)) eL_law_2323 (by decide) ?_
      refine t_gaL eL_law_2324 q (fun v2324 q => ?_)
      refine r_iload eL_law_2325 rfl ?_
      refine r_i2l eL_law_2327 ?_
      refine t_lc_eq eL_law_2328 eL_law_2329 (t := 2334) (by decide) q (fun q => ?_) (fun q => ?_)
      · refine r_goto (t := 3352) eL_law_2334 (by decide) ?_
        refine r_iinc (v := (8)) (lv' := [_, _, _, _, _, _, _, _]) eL_law_3352 rfl (by decide) rfl ?_
        refine r_goto (t := 23) eL_law_3355 (by decide) ?_
        exact hK23 _ _ _ _ _ _ _ _ _ _ _ (by omega) (by omega) q
      refine r_iconst (v := (0)) eL_law_2332 (by decide) ?_
      exact t_rtZ eL_law_2333 rfl q
    refine r_iconst (v := (0)) eL_law_2315 (by decide) ?_
    exact t_rtZ eL_law_2316 rfl q
  refine OK_ite q (fun c24 q => ?_) (fun n24 q => ?_)
  · refine r_tsw 2337 eL_law_40 (by rw [c24]; decide) ?_
    refine r_aload_n eL_law_2337 rfl ?_
    refine r_aload_n eL_law_2338 rfl ?_
    refine r_iload eL_law_2339 rfl ?_
    refine r_iconst (v := (1)) eL_law_2341 (by decide) ?_
    refine r_iadd eL_law_2342 ?_
    refine t_gaS eL_law_2343 q (fun v2343 q => ?_)
    refine r_aload_n eL_law_2344 rfl ?_
    refine r_iload eL_law_2345 rfl ?_
    refine r_iconst (v := (2)) eL_law_2347 (by decide) ?_
    refine r_iadd eL_law_2348 ?_
    refine t_gaS eL_law_2349 q (fun v2349 q => ?_)
    refine r_aload_n eL_law_2350 rfl ?_
    refine r_iload eL_law_2351 rfl ?_
    refine r_iconst (v := (3)) eL_law_2353 (by decide) ?_
    refine r_iadd eL_law_2354 ?_
    refine t_gaS eL_law_2355 q (fun v2355 q => ?_)
    refine r_aload_n eL_law_2356 rfl ?_
    refine r_iload eL_law_2357 rfl ?_
    refine r_iconst (v := (4)) eL_law_2359 (by decide) ?_
    refine r_iadd eL_law_2360 ?_
    refine t_gaS eL_law_2361 q (fun v2361 q => ?_)
    refine r_aload_n eL_law_2362 rfl ?_
    refine r_iload eL_law_2363 rfl ?_
    refine r_iconst (v := (5)) eL_law_2365 (by decide) ?_
    refine r_iadd eL_law_2366 ?_
    refine t_gaS eL_law_2367 q (fun v2367 q => ?_)
    refine r_aload_n eL_law_2368 rfl ?_
    refine r_iload eL_law_2369 rfl ?_
    refine r_bipush (v := (6)) eL_law_2371 (by decide) ?_
    refine r_iadd eL_law_2373 ?_
    refine t_gaS eL_law_2374 q (fun v2374 q => ?_)
    refine r_aload_n eL_law_2375 rfl ?_
    refine r_iload eL_law_2376 rfl ?_
    refine r_bipush (v := (7)) eL_law_2378 (by decide) ?_
    refine r_iadd eL_law_2380 ?_
    refine t_gaS eL_law_2381 q (fun v2381 q => ?_)
    refine r_aload_n eL_law_2382 rfl ?_
    refine t_statIx (As := [_, _, _, _, _, _, _, _, _]) (rest := []) (d' := d + 3 + 9) (mc := 7) (ms := 42) eL_law_2383 k_13_226 l_13_226 rfl (by omega) (Nat.le_of_ble_eq_true rfl) (Nat.le_of_ble_eq_true rfl) (by omega) (by omega) (fun _ q => s_L_two q) q (fun _ _ q => q.elim) (fun v2383 h2383 q => ?_)
    refine r_istore (lv' := [_, _, _, _, _, _, _, _]) eL_law_2386 (Nat.le_of_ble_eq_true rfl) rfl ?_
    refine r_aload_n eL_law_2388 rfl ?_
    refine r_aload_n eL_law_2389 rfl ?_
    refine r_iload eL_law_2390 rfl ?_
    refine r_iconst (v := (1)) eL_law_2392 (by decide) ?_
    refine r_iadd eL_law_2393 ?_
    refine t_gaS eL_law_2394 q (fun v2394 q => ?_)
    refine r_aload_n eL_law_2395 rfl ?_
    refine r_iload eL_law_2396 rfl ?_
    refine r_iconst (v := (2)) eL_law_2398 (by decide) ?_
    refine r_iadd eL_law_2399 ?_
    refine t_gaS eL_law_2400 q (fun v2400 q => ?_)
    refine r_aload_n eL_law_2401 rfl ?_
    refine r_iload eL_law_2402 rfl ?_
    refine r_iconst (v := (3)) eL_law_2404 (by decide) ?_
    refine r_iadd eL_law_2405 ?_
    refine t_gaS eL_law_2406 q (fun v2406 q => ?_)
    refine r_aload_n eL_law_2407 rfl ?_
    refine r_iload eL_law_2408 rfl ?_
    refine r_iconst (v := (4)) eL_law_2410 (by decide) ?_
    refine r_iadd eL_law_2411 ?_
    refine t_gaS eL_law_2412 q (fun v2412 q => ?_)
    refine r_aload_n eL_law_2413 rfl ?_
    refine r_iload eL_law_2414 rfl ?_
    refine r_iconst (v := (5)) eL_law_2416 (by decide) ?_
    refine r_iadd eL_law_2417 ?_
    refine t_gaS eL_law_2418 q (fun v2418 q => ?_)
    refine r_aload_n eL_law_2419 rfl ?_
    refine r_iload eL_law_2420 rfl ?_
    refine r_bipush (v := (6)) eL_law_2422 (by decide) ?_
    refine r_iadd eL_law_2424 ?_
    refine t_gaS eL_law_2425 q (fun v2425 q => ?_)
    refine r_aload_n eL_law_2426 rfl ?_
    refine r_iload eL_law_2427 rfl ?_
    refine r_bipush (v := (7)) eL_law_2429 (by decide) ?_
    refine r_iadd eL_law_2431 ?_
    refine t_gaS eL_law_2432 q (fun v2432 q => ?_)
    refine t_virtI (As := [_, _, _, _, _, _, _]) (rest := []) (d' := d + 3 + 9) (ci := 12) eL_law_2433 k_13_229 rfl rfl rfl (by omega) (Nat.le_of_ble_eq_true rfl) (Nat.le_of_ble_eq_true rfl) (fun _ q => s_X12_two q) q (fun v2433 h2433 q => ?_)
    refine r_istore (lv' := [_, _, _, _, _, _, _, _]) eL_law_2436 (Nat.le_of_ble_eq_true rfl) rfl ?_
    refine r_aload_n eL_law_2438 rfl ?_
    refine t_virtI (As := []) (rest := []) (d' := d + 12 + 0) (ci := 12) eL_law_2439 k_13_141 rfl rfl rfl (by omega) (Nat.le_of_ble_eq_true rfl) (Nat.le_of_ble_eq_true rfl) (fun _ q => s_X12_thrown q) q (fun v2439 h2439 q => ?_)
    refine r_iload eL_law_2442 rfl ?_
    refine t_icmp_eq eL_law_2444 (t := 2449) (by decide) q (fun q => ?_) (fun q => ?_)
    · refine r_iload eL_law_2449 rfl ?_
      refine t_if_ne eL_law_2451 (t := 2466) (by decide) q (fun q => ?_) (fun q => ?_)
      · refine r_goto (t := 3352) eL_law_2466 (by decide) ?_
        refine r_iinc (v := (8)) (lv' := [_, _, _, _, _, _, _, _]) eL_law_3352 rfl (by decide) rfl ?_
        refine r_goto (t := 23) eL_law_3355 (by decide) ?_
        exact hK23 _ _ _ _ _ _ _ _ _ _ _ (by omega) (by omega) q
      refine r_aload_n eL_law_2454 rfl ?_
      refine r_iconst (v := (0)) eL_law_2455 (by decide) ?_
      refine t_gaL eL_law_2456 q (fun v2456 q => ?_)
      refine r_iload eL_law_2457 rfl ?_
      refine r_i2l eL_law_2459 ?_
      refine t_lc_eq eL_law_2460 eL_law_2461 (t := 2466) (by decide) q (fun q => ?_) (fun q => ?_)
      · refine r_goto (t := 3352) eL_law_2466 (by decide) ?_
        refine r_iinc (v := (8)) (lv' := [_, _, _, _, _, _, _, _]) eL_law_3352 rfl (by decide) rfl ?_
        refine r_goto (t := 23) eL_law_3355 (by decide) ?_
        exact hK23 _ _ _ _ _ _ _ _ _ _ _ (by omega) (by omega) q
      refine r_iconst (v := (0)) eL_law_2464 (by decide) ?_
      exact t_rtZ eL_law_2465 rfl q
    refine r_iconst (v := (0)) eL_law_2447 (by decide) ?_
    exact t_rtZ eL_law_2448 rfl q
  refine OK_ite q (fun c25 q => ?_) (fun n25 q => ?_)
  · refine r_tsw 2469 eL_law_40 (by rw [c25]; decide) ?_
    refine r_aload_n eL_law_2469 rfl ?_
    refine r_aload_n eL_law_2470 rfl ?_
    refine r_iload eL_law_2471 rfl ?_
    refine r_iconst (v := (1)) eL_law_2473 (by decide) ?_
    refine r_iadd eL_law_2474 ?_
    refine t_gaS eL_law_2475 q (fun v2475 q => ?_)
    refine r_aload_n eL_law_2476 rfl ?_
    refine r_iload eL_law_2477 rfl ?_
    refine r_iconst (v := (2)) eL_law_2479 (by decide) ?_
    refine r_iadd eL_law_2480 ?_
    refine t_gaS eL_law_2481 q (fun v2481 q => ?_)
    refine r_aload_n eL_law_2482 rfl ?_
    refine r_iload eL_law_2483 rfl ?_
    refine r_iconst (v := (3)) eL_law_2485 (by decide) ?_
    refine r_iadd eL_law_2486 ?_
    refine t_gaS eL_law_2487 q (fun v2487 q => ?_)
    refine r_aload_n eL_law_2488 rfl ?_
    refine r_iload eL_law_2489 rfl ?_
    refine r_iconst (v := (4)) eL_law_2491 (by decide) ?_
    refine r_iadd eL_law_2492 ?_
    refine t_gaS eL_law_2493 q (fun v2493 q => ?_)
    refine r_aload_n eL_law_2494 rfl ?_
    refine r_iload eL_law_2495 rfl ?_
    refine r_iconst (v := (5)) eL_law_2497 (by decide) ?_
    refine r_iadd eL_law_2498 ?_
    refine t_gaS eL_law_2499 q (fun v2499 q => ?_)
    refine r_aload_n eL_law_2500 rfl ?_
    refine r_iload eL_law_2501 rfl ?_
    refine r_bipush (v := (6)) eL_law_2503 (by decide) ?_
    refine r_iadd eL_law_2505 ?_
    refine t_gaS eL_law_2506 q (fun v2506 q => ?_)
    refine r_aload_n eL_law_2507 rfl ?_
    refine r_iload eL_law_2508 rfl ?_
    refine r_bipush (v := (7)) eL_law_2510 (by decide) ?_
    refine r_iadd eL_law_2512 ?_
    refine t_gaS eL_law_2513 q (fun v2513 q => ?_)
    refine t_if_eq eL_law_2514 (t := 2521) (by decide) q (fun q => ?_) (fun q => ?_)
    · refine r_iconst (v := (0)) eL_law_2521 (by decide) ?_
      exact sJ_L_law_2522 (by omega) (by omega) (fun b0 b1 b2 b3 b4 b5 b6 b7 b8 b9 b10 g1 g2 q => hK23 b0 b1 b2 b3 b4 b5 b6 b7 b8 b9 b10 (by omega) (by omega) q) q
    refine r_iconst (v := (1)) eL_law_2517 (by decide) ?_
    refine r_goto (t := 2522) eL_law_2518 (by decide) ?_
    exact sJ_L_law_2522 (by omega) (by omega) (fun b0 b1 b2 b3 b4 b5 b6 b7 b8 b9 b10 g1 g2 q => hK23 b0 b1 b2 b3 b4 b5 b6 b7 b8 b9 b10 (by omega) (by omega) q) q
  refine OK_ite q (fun c26 q => ?_) (fun n26 q => ?_)
  · refine r_tsw 2617 eL_law_40 (by rw [c26]; decide) ?_
    refine r_aload_n eL_law_2617 rfl ?_
    refine r_aload_n eL_law_2618 rfl ?_
    refine r_iload eL_law_2619 rfl ?_
    refine r_iconst (v := (1)) eL_law_2621 (by decide) ?_
    refine r_iadd eL_law_2622 ?_
    refine t_gaS eL_law_2623 q (fun v2623 q => ?_)
    refine r_aload_n eL_law_2624 rfl ?_
    refine r_iload eL_law_2625 rfl ?_
    refine r_iconst (v := (2)) eL_law_2627 (by decide) ?_
    refine r_iadd eL_law_2628 ?_
    refine t_gaS eL_law_2629 q (fun v2629 q => ?_)
    refine r_aload_n eL_law_2630 rfl ?_
    refine r_iload eL_law_2631 rfl ?_
    refine r_iconst (v := (3)) eL_law_2633 (by decide) ?_
    refine r_iadd eL_law_2634 ?_
    refine t_gaS eL_law_2635 q (fun v2635 q => ?_)
    refine r_aload_n eL_law_2636 rfl ?_
    refine r_iload eL_law_2637 rfl ?_
    refine r_iconst (v := (4)) eL_law_2639 (by decide) ?_
    refine r_iadd eL_law_2640 ?_
    refine t_gaS eL_law_2641 q (fun v2641 q => ?_)
    refine r_aload_n eL_law_2642 rfl ?_
    refine r_iload eL_law_2643 rfl ?_
    refine r_iconst (v := (5)) eL_law_2645 (by decide) ?_
    refine r_iadd eL_law_2646 ?_
    refine t_gaS eL_law_2647 q (fun v2647 q => ?_)
    refine r_aload_n eL_law_2648 rfl ?_
    refine r_iload eL_law_2649 rfl ?_
    refine r_bipush (v := (6)) eL_law_2651 (by decide) ?_
    refine r_iadd eL_law_2653 ?_
    refine t_gaS eL_law_2654 q (fun v2654 q => ?_)
    refine r_aload_n eL_law_2655 rfl ?_
    refine t_statIx (As := [_, _, _, _, _, _, _, _]) (rest := []) (d' := d + 0 + 12) (mc := 5) (ms := 30) eL_law_2656 k_13_234 l_13_234 rfl (by omega) (Nat.le_of_ble_eq_true rfl) (Nat.le_of_ble_eq_true rfl) (by omega) (by omega) (fun _ q => s_L_shortest q) q (fun _ _ q => q.elim) (fun v2656 h2656 q => ?_)
    refine r_istore (lv' := [_, _, _, _, _, _, _, _]) eL_law_2659 (Nat.le_of_ble_eq_true rfl) rfl ?_
    refine r_aload_n eL_law_2661 rfl ?_
    refine r_aload_n eL_law_2662 rfl ?_
    refine r_iload eL_law_2663 rfl ?_
    refine r_iconst (v := (1)) eL_law_2665 (by decide) ?_
    refine r_iadd eL_law_2666 ?_
    refine t_gaS eL_law_2667 q (fun v2667 q => ?_)
    refine r_aload_n eL_law_2668 rfl ?_
    refine r_iload eL_law_2669 rfl ?_
    refine r_iconst (v := (2)) eL_law_2671 (by decide) ?_
    refine r_iadd eL_law_2672 ?_
    refine t_gaS eL_law_2673 q (fun v2673 q => ?_)
    refine r_aload_n eL_law_2674 rfl ?_
    refine r_iload eL_law_2675 rfl ?_
    refine r_iconst (v := (3)) eL_law_2677 (by decide) ?_
    refine r_iadd eL_law_2678 ?_
    refine t_gaS eL_law_2679 q (fun v2679 q => ?_)
    refine r_aload_n eL_law_2680 rfl ?_
    refine r_iload eL_law_2681 rfl ?_
    refine r_iconst (v := (4)) eL_law_2683 (by decide) ?_
    refine r_iadd eL_law_2684 ?_
    refine t_gaS eL_law_2685 q (fun v2685 q => ?_)
    refine r_aload_n eL_law_2686 rfl ?_
    refine r_iload eL_law_2687 rfl ?_
    refine r_iconst (v := (5)) eL_law_2689 (by decide) ?_
    refine r_iadd eL_law_2690 ?_
    refine t_gaS eL_law_2691 q (fun v2691 q => ?_)
    refine r_aload_n eL_law_2692 rfl ?_
    refine r_iload eL_law_2693 rfl ?_
    refine r_bipush (v := (6)) eL_law_2695 (by decide) ?_
    refine r_iadd eL_law_2697 ?_
    refine t_gaS eL_law_2698 q (fun v2698 q => ?_)
    refine t_virtI (As := [_, _, _, _, _, _]) (rest := []) (d' := d + 1 + 11) (ci := 12) eL_law_2699 k_13_236 rfl rfl rfl (by omega) (Nat.le_of_ble_eq_true rfl) (Nat.le_of_ble_eq_true rfl) (fun _ q => s_X12_shortest q) q (fun v2699 h2699 q => ?_)
    refine r_istore (lv' := [_, _, _, _, _, _, _, _]) eL_law_2702 (Nat.le_of_ble_eq_true rfl) rfl ?_
    refine r_aload_n eL_law_2704 rfl ?_
    refine t_virtI (As := []) (rest := []) (d' := d + 12 + 0) (ci := 12) eL_law_2705 k_13_141 rfl rfl rfl (by omega) (Nat.le_of_ble_eq_true rfl) (Nat.le_of_ble_eq_true rfl) (fun _ q => s_X12_thrown q) q (fun v2705 h2705 q => ?_)
    refine r_iload eL_law_2708 rfl ?_
    refine t_icmp_eq eL_law_2710 (t := 2715) (by decide) q (fun q => ?_) (fun q => ?_)
    · refine r_iload eL_law_2715 rfl ?_
      refine t_if_ne eL_law_2717 (t := 2732) (by decide) q (fun q => ?_) (fun q => ?_)
      · refine r_goto (t := 3352) eL_law_2732 (by decide) ?_
        refine r_iinc (v := (8)) (lv' := [_, _, _, _, _, _, _, _]) eL_law_3352 rfl (by decide) rfl ?_
        refine r_goto (t := 23) eL_law_3355 (by decide) ?_
        exact hK23 _ _ _ _ _ _ _ _ _ _ _ (by omega) (by omega) q
      refine r_aload_n eL_law_2720 rfl ?_
      refine r_iconst (v := (0)) eL_law_2721 (by decide) ?_
      refine t_gaL eL_law_2722 q (fun v2722 q => ?_)
      refine r_iload eL_law_2723 rfl ?_
      refine r_i2l eL_law_2725 ?_
      refine t_lc_eq eL_law_2726 eL_law_2727 (t := 2732) (by decide) q (fun q => ?_) (fun q => ?_)
      · refine r_goto (t := 3352) eL_law_2732 (by decide) ?_
        refine r_iinc (v := (8)) (lv' := [_, _, _, _, _, _, _, _]) eL_law_3352 rfl (by decide) rfl ?_
        refine r_goto (t := 23) eL_law_3355 (by decide) ?_
        exact hK23 _ _ _ _ _ _ _ _ _ _ _ (by omega) (by omega) q
      refine r_iconst (v := (0)) eL_law_2730 (by decide) ?_
      exact t_rtZ eL_law_2731 rfl q
    refine r_iconst (v := (0)) eL_law_2713 (by decide) ?_
    exact t_rtZ eL_law_2714 rfl q
  refine OK_ite q (fun c27 q => ?_) (fun n27 q => ?_)
  · refine r_tsw 2735 eL_law_40 (by rw [c27]; decide) ?_
    refine r_aload_n eL_law_2735 rfl ?_
    refine r_aload_n eL_law_2736 rfl ?_
    refine r_iload eL_law_2737 rfl ?_
    refine r_iconst (v := (1)) eL_law_2739 (by decide) ?_
    refine r_iadd eL_law_2740 ?_
    refine t_gaS eL_law_2741 q (fun v2741 q => ?_)
    refine r_aload_n eL_law_2742 rfl ?_
    refine r_iload eL_law_2743 rfl ?_
    refine r_iconst (v := (2)) eL_law_2745 (by decide) ?_
    refine r_iadd eL_law_2746 ?_
    refine t_gaS eL_law_2747 q (fun v2747 q => ?_)
    refine r_aload_n eL_law_2748 rfl ?_
    refine r_iload eL_law_2749 rfl ?_
    refine r_iconst (v := (3)) eL_law_2751 (by decide) ?_
    refine r_iadd eL_law_2752 ?_
    refine t_gaS eL_law_2753 q (fun v2753 q => ?_)
    refine r_aload_n eL_law_2754 rfl ?_
    refine r_iload eL_law_2755 rfl ?_
    refine r_iconst (v := (4)) eL_law_2757 (by decide) ?_
    refine r_iadd eL_law_2758 ?_
    refine t_gaS eL_law_2759 q (fun v2759 q => ?_)
    refine r_aload_n eL_law_2760 rfl ?_
    refine r_iload eL_law_2761 rfl ?_
    refine r_iconst (v := (5)) eL_law_2763 (by decide) ?_
    refine r_iadd eL_law_2764 ?_
    refine t_gaS eL_law_2765 q (fun v2765 q => ?_)
    refine r_aload_n eL_law_2766 rfl ?_
    refine t_statIx (As := [_, _, _, _, _, _, _]) (rest := []) (d' := d + 9 + 3) (mc := 5) (ms := 30) eL_law_2767 k_13_237 l_13_237 rfl (by omega) (Nat.le_of_ble_eq_true rfl) (Nat.le_of_ble_eq_true rfl) (by omega) (by omega) (fun _ q => s_L_went q) q (fun _ _ q => q.elim) (fun v2767 h2767 q => ?_)
    refine r_istore (lv' := [_, _, _, _, _, _, _, _]) eL_law_2770 (Nat.le_of_ble_eq_true rfl) rfl ?_
    refine r_aload_n eL_law_2772 rfl ?_
    refine r_aload_n eL_law_2773 rfl ?_
    refine r_iload eL_law_2774 rfl ?_
    refine r_iconst (v := (1)) eL_law_2776 (by decide) ?_
    refine r_iadd eL_law_2777 ?_
    refine t_gaS eL_law_2778 q (fun v2778 q => ?_)
    refine r_aload_n eL_law_2779 rfl ?_
    refine r_iload eL_law_2780 rfl ?_
    refine r_iconst (v := (2)) eL_law_2782 (by decide) ?_
    refine r_iadd eL_law_2783 ?_
    refine t_gaS eL_law_2784 q (fun v2784 q => ?_)
    refine r_aload_n eL_law_2785 rfl ?_
    refine r_iload eL_law_2786 rfl ?_
    refine r_iconst (v := (3)) eL_law_2788 (by decide) ?_
    refine r_iadd eL_law_2789 ?_
    refine t_gaS eL_law_2790 q (fun v2790 q => ?_)
    refine r_aload_n eL_law_2791 rfl ?_
    refine r_iload eL_law_2792 rfl ?_
    refine r_iconst (v := (4)) eL_law_2794 (by decide) ?_
    refine r_iadd eL_law_2795 ?_
    refine t_gaS eL_law_2796 q (fun v2796 q => ?_)
    refine r_aload_n eL_law_2797 rfl ?_
    refine r_iload eL_law_2798 rfl ?_
    refine r_iconst (v := (5)) eL_law_2800 (by decide) ?_
    refine r_iadd eL_law_2801 ?_
    refine t_gaS eL_law_2802 q (fun v2802 q => ?_)
    refine t_virtI (As := [_, _, _, _, _]) (rest := []) (d' := d + 8 + 4) (ci := 12) eL_law_2803 k_13_239 rfl rfl rfl (by omega) (Nat.le_of_ble_eq_true rfl) (Nat.le_of_ble_eq_true rfl) (fun _ q => s_X12_went q) q (fun v2803 h2803 q => ?_)
    refine r_istore (lv' := [_, _, _, _, _, _, _, _]) eL_law_2806 (Nat.le_of_ble_eq_true rfl) rfl ?_
    refine r_aload_n eL_law_2808 rfl ?_
    refine t_virtI (As := []) (rest := []) (d' := d + 12 + 0) (ci := 12) eL_law_2809 k_13_141 rfl rfl rfl (by omega) (Nat.le_of_ble_eq_true rfl) (Nat.le_of_ble_eq_true rfl) (fun _ q => s_X12_thrown q) q (fun v2809 h2809 q => ?_)
    refine r_iload eL_law_2812 rfl ?_
    refine t_icmp_eq eL_law_2814 (t := 2819) (by decide) q (fun q => ?_) (fun q => ?_)
    · refine r_iload eL_law_2819 rfl ?_
      refine t_if_ne eL_law_2821 (t := 2836) (by decide) q (fun q => ?_) (fun q => ?_)
      · refine r_goto (t := 3352) eL_law_2836 (by decide) ?_
        refine r_iinc (v := (8)) (lv' := [_, _, _, _, _, _, _, _]) eL_law_3352 rfl (by decide) rfl ?_
        refine r_goto (t := 23) eL_law_3355 (by decide) ?_
        exact hK23 _ _ _ _ _ _ _ _ _ _ _ (by omega) (by omega) q
      refine r_aload_n eL_law_2824 rfl ?_
      refine r_iconst (v := (0)) eL_law_2825 (by decide) ?_
      refine t_gaL eL_law_2826 q (fun v2826 q => ?_)
      refine r_iload eL_law_2827 rfl ?_
      refine r_i2l eL_law_2829 ?_
      refine t_lc_eq eL_law_2830 eL_law_2831 (t := 2836) (by decide) q (fun q => ?_) (fun q => ?_)
      · refine r_goto (t := 3352) eL_law_2836 (by decide) ?_
        refine r_iinc (v := (8)) (lv' := [_, _, _, _, _, _, _, _]) eL_law_3352 rfl (by decide) rfl ?_
        refine r_goto (t := 23) eL_law_3355 (by decide) ?_
        exact hK23 _ _ _ _ _ _ _ _ _ _ _ (by omega) (by omega) q
      refine r_iconst (v := (0)) eL_law_2834 (by decide) ?_
      exact t_rtZ eL_law_2835 rfl q
    refine r_iconst (v := (0)) eL_law_2817 (by decide) ?_
    exact t_rtZ eL_law_2818 rfl q
  refine OK_ite q (fun c28 q => ?_) (fun n28 q => ?_)
  · refine r_tsw 2839 eL_law_40 (by rw [c28]; decide) ?_
    refine r_aload_n eL_law_2839 rfl ?_
    refine r_aload_n eL_law_2840 rfl ?_
    refine r_iload eL_law_2841 rfl ?_
    refine r_iconst (v := (1)) eL_law_2843 (by decide) ?_
    refine r_iadd eL_law_2844 ?_
    refine t_gaS eL_law_2845 q (fun v2845 q => ?_)
    refine r_aload_n eL_law_2846 rfl ?_
    refine r_iload eL_law_2847 rfl ?_
    refine r_iconst (v := (2)) eL_law_2849 (by decide) ?_
    refine r_iadd eL_law_2850 ?_
    refine t_gaS eL_law_2851 q (fun v2851 q => ?_)
    refine r_aload_n eL_law_2852 rfl ?_
    refine t_statIx (As := [_, _, _, _]) (rest := []) (d' := d + 3 + 9) (mc := 2) (ms := 12) eL_law_2853 k_13_240 l_13_240 rfl (by omega) (Nat.le_of_ble_eq_true rfl) (Nat.le_of_ble_eq_true rfl) (by omega) (by omega) (fun _ q => s_L_learned q) q (fun _ _ q => q.elim) (fun v2853 h2853 q => ?_)
    refine r_istore (lv' := [_, _, _, _, _, _, _, _]) eL_law_2856 (Nat.le_of_ble_eq_true rfl) rfl ?_
    refine r_aload_n eL_law_2858 rfl ?_
    refine r_aload_n eL_law_2859 rfl ?_
    refine r_iload eL_law_2860 rfl ?_
    refine r_iconst (v := (1)) eL_law_2862 (by decide) ?_
    refine r_iadd eL_law_2863 ?_
    refine t_gaS eL_law_2864 q (fun v2864 q => ?_)
    refine r_aload_n eL_law_2865 rfl ?_
    refine r_iload eL_law_2866 rfl ?_
    refine r_iconst (v := (2)) eL_law_2868 (by decide) ?_
    refine r_iadd eL_law_2869 ?_
    refine t_gaS eL_law_2870 q (fun v2870 q => ?_)
    refine t_virtI (As := [_, _]) (rest := []) (d' := d + 3 + 9) (ci := 12) eL_law_2871 k_13_242 rfl rfl rfl (by omega) (Nat.le_of_ble_eq_true rfl) (Nat.le_of_ble_eq_true rfl) (fun _ q => s_X12_learned q) q (fun v2871 h2871 q => ?_)
    refine r_istore (lv' := [_, _, _, _, _, _, _, _]) eL_law_2874 (Nat.le_of_ble_eq_true rfl) rfl ?_
    refine r_aload_n eL_law_2876 rfl ?_
    refine t_virtI (As := []) (rest := []) (d' := d + 12 + 0) (ci := 12) eL_law_2877 k_13_141 rfl rfl rfl (by omega) (Nat.le_of_ble_eq_true rfl) (Nat.le_of_ble_eq_true rfl) (fun _ q => s_X12_thrown q) q (fun v2877 h2877 q => ?_)
    refine r_iload eL_law_2880 rfl ?_
    refine t_icmp_eq eL_law_2882 (t := 2887) (by decide) q (fun q => ?_) (fun q => ?_)
    · refine r_iload eL_law_2887 rfl ?_
      refine t_if_ne eL_law_2889 (t := 2904) (by decide) q (fun q => ?_) (fun q => ?_)
      · refine r_goto (t := 3352) eL_law_2904 (by decide) ?_
        refine r_iinc (v := (8)) (lv' := [_, _, _, _, _, _, _, _]) eL_law_3352 rfl (by decide) rfl ?_
        refine r_goto (t := 23) eL_law_3355 (by decide) ?_
        exact hK23 _ _ _ _ _ _ _ _ _ _ _ (by omega) (by omega) q
      refine r_aload_n eL_law_2892 rfl ?_
      refine r_iconst (v := (0)) eL_law_2893 (by decide) ?_
      refine t_gaL eL_law_2894 q (fun v2894 q => ?_)
      refine r_iload eL_law_2895 rfl ?_
      refine r_i2l eL_law_2897 ?_
      refine t_lc_eq eL_law_2898 eL_law_2899 (t := 2904) (by decide) q (fun q => ?_) (fun q => ?_)
      · refine r_goto (t := 3352) eL_law_2904 (by decide) ?_
        refine r_iinc (v := (8)) (lv' := [_, _, _, _, _, _, _, _]) eL_law_3352 rfl (by decide) rfl ?_
        refine r_goto (t := 23) eL_law_3355 (by decide) ?_
        exact hK23 _ _ _ _ _ _ _ _ _ _ _ (by omega) (by omega) q
      refine r_iconst (v := (0)) eL_law_2902 (by decide) ?_
      exact t_rtZ eL_law_2903 rfl q
    refine r_iconst (v := (0)) eL_law_2885 (by decide) ?_
    exact t_rtZ eL_law_2886 rfl q
  refine OK_ite q (fun c29 q => ?_) (fun n29 q => ?_)
  · refine r_tsw 2907 eL_law_40 (by rw [c29]; decide) ?_
    refine r_aload_n eL_law_2907 rfl ?_
    refine t_virtI (As := []) (rest := []) (d' := d + 11 + 1) (ci := 11) eL_law_2908 k_13_243 rfl rfl rfl (by omega) (Nat.le_of_ble_eq_true rfl) (Nat.le_of_ble_eq_true rfl) (fun _ q => s_X11_teller q) q (fun v2908 h2908 q => ?_)
    refine r_aload_n eL_law_2911 rfl ?_
    refine t_virtI (As := []) (rest := [_]) (d' := d + 10 + 2) (ci := 12) eL_law_2912 k_13_246 rfl rfl rfl (by omega) (Nat.le_of_ble_eq_true rfl) (Nat.le_of_ble_eq_true rfl) (fun _ q => s_X12_teller q) q (fun v2912 h2912 q => ?_)
    refine t_icmp_eq eL_law_2915 (t := 3352) (by decide) q (fun q => ?_) (fun q => ?_)
    · refine r_iinc (v := (8)) (lv' := [_, _, _, _, _, _, _, _]) eL_law_3352 rfl (by decide) rfl ?_
      refine r_goto (t := 23) eL_law_3355 (by decide) ?_
      exact hK23 _ _ _ _ _ _ _ _ _ _ _ (by omega) (by omega) q
    refine r_iconst (v := (0)) eL_law_2918 (by decide) ?_
    exact t_rtZ eL_law_2919 rfl q
  refine OK_ite q (fun c30 q => ?_) (fun n30 q => ?_)
  · refine r_tsw 2920 eL_law_40 (by rw [c30]; decide) ?_
    refine r_aload_n eL_law_2920 rfl ?_
    refine r_aload_n eL_law_2921 rfl ?_
    refine r_iload eL_law_2922 rfl ?_
    refine r_iconst (v := (1)) eL_law_2924 (by decide) ?_
    refine r_iadd eL_law_2925 ?_
    refine t_gaS eL_law_2926 q (fun v2926 q => ?_)
    refine r_aload_n eL_law_2927 rfl ?_
    refine r_iload eL_law_2928 rfl ?_
    refine r_iconst (v := (2)) eL_law_2930 (by decide) ?_
    refine r_iadd eL_law_2931 ?_
    refine t_gaS eL_law_2932 q (fun v2932 q => ?_)
    refine t_if_eq eL_law_2933 (t := 2940) (by decide) q (fun q => ?_) (fun q => ?_)
    · refine r_iconst (v := (0)) eL_law_2940 (by decide) ?_
      exact sJ_L_law_2941 (by omega) (by omega) (fun b0 b1 b2 b3 b4 b5 b6 b7 b8 b9 b10 g1 g2 q => hK23 b0 b1 b2 b3 b4 b5 b6 b7 b8 b9 b10 (by omega) (by omega) q) q
    refine r_iconst (v := (1)) eL_law_2936 (by decide) ?_
    refine r_goto (t := 2941) eL_law_2937 (by decide) ?_
    exact sJ_L_law_2941 (by omega) (by omega) (fun b0 b1 b2 b3 b4 b5 b6 b7 b8 b9 b10 g1 g2 q => hK23 b0 b1 b2 b3 b4 b5 b6 b7 b8 b9 b10 (by omega) (by omega) q) q
  refine OK_ite q (fun c31 q => ?_) (fun n31 q => ?_)
  · refine r_tsw 3004 eL_law_40 (by rw [c31]; decide) ?_
    refine r_aload_n eL_law_3004 rfl ?_
    refine r_aload_n eL_law_3005 rfl ?_
    refine r_iload eL_law_3006 rfl ?_
    refine r_iconst (v := (1)) eL_law_3008 (by decide) ?_
    refine r_iadd eL_law_3009 ?_
    refine t_gaS eL_law_3010 q (fun v3010 q => ?_)
    refine r_aload_n eL_law_3011 rfl ?_
    refine r_iload eL_law_3012 rfl ?_
    refine r_iconst (v := (2)) eL_law_3014 (by decide) ?_
    refine r_iadd eL_law_3015 ?_
    refine t_gaS eL_law_3016 q (fun v3016 q => ?_)
    refine r_aload_n eL_law_3017 rfl ?_
    refine r_iload eL_law_3018 rfl ?_
    refine r_iconst (v := (3)) eL_law_3020 (by decide) ?_
    refine r_iadd eL_law_3021 ?_
    refine t_gaS eL_law_3022 q (fun v3022 q => ?_)
    refine t_statIx (As := [_, _, _, _]) (rest := []) (d' := d + 9 + 3) (mc := 2) (ms := 12) eL_law_3023 k_13_251 l_13_251 rfl (by omega) (Nat.le_of_ble_eq_true rfl) (Nat.le_of_ble_eq_true rfl) (by omega) (by omega) (fun _ q => s_L_tray q) q (fun _ _ q => q.elim) (fun v3023 h3023 q => ?_)
    refine r_istore (lv' := [_, _, _, _, _, _, _, _]) eL_law_3026 (Nat.le_of_ble_eq_true rfl) rfl ?_
    refine r_aload_n eL_law_3028 rfl ?_
    refine r_aload_n eL_law_3029 rfl ?_
    refine r_iload eL_law_3030 rfl ?_
    refine r_iconst (v := (1)) eL_law_3032 (by decide) ?_
    refine r_iadd eL_law_3033 ?_
    refine t_gaS eL_law_3034 q (fun v3034 q => ?_)
    refine r_aload_n eL_law_3035 rfl ?_
    refine r_iload eL_law_3036 rfl ?_
    refine r_iconst (v := (2)) eL_law_3038 (by decide) ?_
    refine r_iadd eL_law_3039 ?_
    refine t_gaS eL_law_3040 q (fun v3040 q => ?_)
    refine r_aload_n eL_law_3041 rfl ?_
    refine r_iload eL_law_3042 rfl ?_
    refine r_iconst (v := (3)) eL_law_3044 (by decide) ?_
    refine r_iadd eL_law_3045 ?_
    refine t_gaS eL_law_3046 q (fun v3046 q => ?_)
    refine t_virtV (As := [_, _, _]) (rest := []) (d' := d + 10 + 2) (ci := 12) eL_law_3047 k_13_254 rfl rfl rfl (by omega) (Nat.le_of_ble_eq_true rfl) (Nat.le_of_ble_eq_true rfl) (fun _ q => s_X12_tray q) q (fun h3047 q => ?_)
    refine r_aload_n eL_law_3050 rfl ?_
    refine t_virtI (As := []) (rest := []) (d' := d + 12 + 0) (ci := 12) eL_law_3051 k_13_141 rfl rfl rfl (by omega) (Nat.le_of_ble_eq_true rfl) (Nat.le_of_ble_eq_true rfl) (fun _ q => s_X12_thrown q) q (fun v3051 h3051 q => ?_)
    refine r_iload eL_law_3054 rfl ?_
    refine t_icmp_eq eL_law_3056 (t := 3061) (by decide) q (fun q => ?_) (fun q => ?_)
    · refine r_goto (t := 3352) eL_law_3061 (by decide) ?_
      refine r_iinc (v := (8)) (lv' := [_, _, _, _, _, _, _, _]) eL_law_3352 rfl (by decide) rfl ?_
      refine r_goto (t := 23) eL_law_3355 (by decide) ?_
      exact hK23 _ _ _ _ _ _ _ _ _ _ _ (by omega) (by omega) q
    refine r_iconst (v := (0)) eL_law_3059 (by decide) ?_
    exact t_rtZ eL_law_3060 rfl q
  refine OK_ite q (fun c32 q => ?_) (fun n32 q => ?_)
  · refine r_tsw 3064 eL_law_40 (by rw [c32]; decide) ?_
    refine r_aload_n eL_law_3064 rfl ?_
    refine r_aload_n eL_law_3065 rfl ?_
    refine r_iload eL_law_3066 rfl ?_
    refine r_iconst (v := (1)) eL_law_3068 (by decide) ?_
    refine r_iadd eL_law_3069 ?_
    refine t_gaS eL_law_3070 q (fun v3070 q => ?_)
    refine r_aload_n eL_law_3071 rfl ?_
    refine r_iload eL_law_3072 rfl ?_
    refine r_iconst (v := (2)) eL_law_3074 (by decide) ?_
    refine r_iadd eL_law_3075 ?_
    refine t_gaS eL_law_3076 q (fun v3076 q => ?_)
    refine r_aload_n eL_law_3077 rfl ?_
    refine r_iload eL_law_3078 rfl ?_
    refine r_iconst (v := (3)) eL_law_3080 (by decide) ?_
    refine r_iadd eL_law_3081 ?_
    refine t_gaS eL_law_3082 q (fun v3082 q => ?_)
    refine r_i2l eL_law_3083 ?_
    refine r_bipush (v := (32)) eL_law_3084 (by decide) ?_
    refine r_lshl eL_law_3086 ?_
    refine r_aload_n eL_law_3087 rfl ?_
    refine r_iload eL_law_3088 rfl ?_
    refine r_iconst (v := (4)) eL_law_3090 (by decide) ?_
    refine r_iadd eL_law_3091 ?_
    refine t_gaS eL_law_3092 q (fun v3092 q => ?_)
    refine r_i2l eL_law_3093 ?_
    refine r_ldc2 eL_law_3094 g_13_255 ?_
    refine r_land eL_law_3097 ?_
    refine r_lor eL_law_3098 ?_
    refine r_aload_n eL_law_3099 rfl ?_
    refine t_statIx (As := [_, _, _, _, _]) (rest := []) (d' := d + 10 + 2) (mc := 3) (ms := 18) eL_law_3100 k_13_257 l_13_257 rfl (by omega) (Nat.le_of_ble_eq_true rfl) (Nat.le_of_ble_eq_true rfl) (by omega) (by omega) (fun _ q => s_L_write q) q (fun _ _ q => q.elim) (fun v3100 h3100 q => ?_)
    refine r_istore (lv' := [_, _, _, _, _, _, _, _]) eL_law_3103 (Nat.le_of_ble_eq_true rfl) rfl ?_
    refine r_aload_n eL_law_3105 rfl ?_
    refine r_aload_n eL_law_3106 rfl ?_
    refine r_iload eL_law_3107 rfl ?_
    refine r_iconst (v := (1)) eL_law_3109 (by decide) ?_
    refine r_iadd eL_law_3110 ?_
    refine t_gaS eL_law_3111 q (fun v3111 q => ?_)
    refine r_aload_n eL_law_3112 rfl ?_
    refine r_iload eL_law_3113 rfl ?_
    refine r_iconst (v := (2)) eL_law_3115 (by decide) ?_
    refine r_iadd eL_law_3116 ?_
    refine t_gaS eL_law_3117 q (fun v3117 q => ?_)
    refine r_aload_n eL_law_3118 rfl ?_
    refine r_iload eL_law_3119 rfl ?_
    refine r_iconst (v := (3)) eL_law_3121 (by decide) ?_
    refine r_iadd eL_law_3122 ?_
    refine t_gaS eL_law_3123 q (fun v3123 q => ?_)
    refine r_i2l eL_law_3124 ?_
    refine r_bipush (v := (32)) eL_law_3125 (by decide) ?_
    refine r_lshl eL_law_3127 ?_
    refine r_aload_n eL_law_3128 rfl ?_
    refine r_iload eL_law_3129 rfl ?_
    refine r_iconst (v := (4)) eL_law_3131 (by decide) ?_
    refine r_iadd eL_law_3132 ?_
    refine t_gaS eL_law_3133 q (fun v3133 q => ?_)
    refine r_i2l eL_law_3134 ?_
    refine r_ldc2 eL_law_3135 g_13_255 ?_
    refine r_land eL_law_3138 ?_
    refine r_lor eL_law_3139 ?_
    refine t_virtL (As := [_, _, _]) (rest := []) (d' := d + 10 + 2) (ci := 12) eL_law_3140 k_13_260 rfl rfl rfl (by omega) (Nat.le_of_ble_eq_true rfl) (Nat.le_of_ble_eq_true rfl) (fun _ q => s_X12_write q) q (fun v3140 h3140 q => ?_)
    refine r_lstore (lv' := [_, _, _, _, _, _, _, _]) eL_law_3143 (Nat.le_of_ble_eq_true rfl) rfl ?_
    refine r_aload_n eL_law_3145 rfl ?_
    refine t_virtI (As := []) (rest := []) (d' := d + 12 + 0) (ci := 12) eL_law_3146 k_13_141 rfl rfl rfl (by omega) (Nat.le_of_ble_eq_true rfl) (Nat.le_of_ble_eq_true rfl) (fun _ q => s_X12_thrown q) q (fun v3146 h3146 q => ?_)
    refine r_iload eL_law_3149 rfl ?_
    refine t_icmp_eq eL_law_3151 (t := 3156) (by decide) q (fun q => ?_) (fun q => ?_)
    · refine r_iload eL_law_3156 rfl ?_
      refine t_if_ne eL_law_3158 (t := 3172) (by decide) q (fun q => ?_) (fun q => ?_)
      · refine r_goto (t := 3352) eL_law_3172 (by decide) ?_
        refine r_iinc (v := (8)) (lv' := [_, _, _, _, _, _, _, _]) eL_law_3352 rfl (by decide) rfl ?_
        refine r_goto (t := 23) eL_law_3355 (by decide) ?_
        exact hK23 _ _ _ _ _ _ _ _ _ _ _ (by omega) (by omega) q
      refine r_aload_n eL_law_3161 rfl ?_
      refine r_iconst (v := (0)) eL_law_3162 (by decide) ?_
      refine t_gaL eL_law_3163 q (fun v3163 q => ?_)
      refine r_lload eL_law_3164 rfl ?_
      refine t_lc_eq eL_law_3166 eL_law_3167 (t := 3172) (by decide) q (fun q => ?_) (fun q => ?_)
      · refine r_goto (t := 3352) eL_law_3172 (by decide) ?_
        refine r_iinc (v := (8)) (lv' := [_, _, _, _, _, _, _, _]) eL_law_3352 rfl (by decide) rfl ?_
        refine r_goto (t := 23) eL_law_3355 (by decide) ?_
        exact hK23 _ _ _ _ _ _ _ _ _ _ _ (by omega) (by omega) q
      refine r_iconst (v := (0)) eL_law_3170 (by decide) ?_
      exact t_rtZ eL_law_3171 rfl q
    refine r_iconst (v := (0)) eL_law_3154 (by decide) ?_
    exact t_rtZ eL_law_3155 rfl q
  refine OK_ite q (fun c33 q => ?_) (fun n33 q => ?_)
  · refine r_tsw 3175 eL_law_40 (by rw [c33]; decide) ?_
    refine r_aload_n eL_law_3175 rfl ?_
    refine r_aload_n eL_law_3176 rfl ?_
    refine r_iload eL_law_3177 rfl ?_
    refine r_iconst (v := (1)) eL_law_3179 (by decide) ?_
    refine r_iadd eL_law_3180 ?_
    refine t_gaS eL_law_3181 q (fun v3181 q => ?_)
    refine r_aload_n eL_law_3182 rfl ?_
    refine r_iload eL_law_3183 rfl ?_
    refine r_iconst (v := (2)) eL_law_3185 (by decide) ?_
    refine r_iadd eL_law_3186 ?_
    refine t_gaS eL_law_3187 q (fun v3187 q => ?_)
    refine r_aload_n eL_law_3188 rfl ?_
    refine r_iload eL_law_3189 rfl ?_
    refine r_iconst (v := (3)) eL_law_3191 (by decide) ?_
    refine r_iadd eL_law_3192 ?_
    refine t_gaS eL_law_3193 q (fun v3193 q => ?_)
    refine r_aload_n eL_law_3194 rfl ?_
    refine t_statIx (As := [_, _, _, _, _]) (rest := []) (d' := d + 8 + 4) (mc := 4) (ms := 24) eL_law_3195 k_13_261 l_13_261 rfl (by omega) (Nat.le_of_ble_eq_true rfl) (Nat.le_of_ble_eq_true rfl) (by omega) (by omega) (fun _ q => s_L_say q) q (fun _ _ q => q.elim) (fun v3195 h3195 q => ?_)
    refine r_istore (lv' := [_, _, _, _, _, _, _, _]) eL_law_3198 (Nat.le_of_ble_eq_true rfl) rfl ?_
    refine r_aload_n eL_law_3200 rfl ?_
    refine r_aload_n eL_law_3201 rfl ?_
    refine r_iload eL_law_3202 rfl ?_
    refine r_iconst (v := (1)) eL_law_3204 (by decide) ?_
    refine r_iadd eL_law_3205 ?_
    refine t_gaS eL_law_3206 q (fun v3206 q => ?_)
    refine r_aload_n eL_law_3207 rfl ?_
    refine r_iload eL_law_3208 rfl ?_
    refine r_iconst (v := (2)) eL_law_3210 (by decide) ?_
    refine r_iadd eL_law_3211 ?_
    refine t_gaS eL_law_3212 q (fun v3212 q => ?_)
    refine r_aload_n eL_law_3213 rfl ?_
    refine r_iload eL_law_3214 rfl ?_
    refine r_iconst (v := (3)) eL_law_3216 (by decide) ?_
    refine r_iadd eL_law_3217 ?_
    refine t_gaS eL_law_3218 q (fun v3218 q => ?_)
    refine t_virtI (As := [_, _, _]) (rest := []) (d' := d + 9 + 3) (ci := 12) eL_law_3219 k_13_263 rfl rfl rfl (by omega) (Nat.le_of_ble_eq_true rfl) (Nat.le_of_ble_eq_true rfl) (fun _ q => s_X12_say q) q (fun v3219 h3219 q => ?_)
    refine r_istore (lv' := [_, _, _, _, _, _, _, _]) eL_law_3222 (Nat.le_of_ble_eq_true rfl) rfl ?_
    refine r_aload_n eL_law_3224 rfl ?_
    refine t_virtI (As := []) (rest := []) (d' := d + 12 + 0) (ci := 12) eL_law_3225 k_13_141 rfl rfl rfl (by omega) (Nat.le_of_ble_eq_true rfl) (Nat.le_of_ble_eq_true rfl) (fun _ q => s_X12_thrown q) q (fun v3225 h3225 q => ?_)
    refine r_iload eL_law_3228 rfl ?_
    refine t_icmp_eq eL_law_3230 (t := 3235) (by decide) q (fun q => ?_) (fun q => ?_)
    · refine r_iload eL_law_3235 rfl ?_
      refine t_if_ne eL_law_3237 (t := 3252) (by decide) q (fun q => ?_) (fun q => ?_)
      · refine r_goto (t := 3352) eL_law_3252 (by decide) ?_
        refine r_iinc (v := (8)) (lv' := [_, _, _, _, _, _, _, _]) eL_law_3352 rfl (by decide) rfl ?_
        refine r_goto (t := 23) eL_law_3355 (by decide) ?_
        exact hK23 _ _ _ _ _ _ _ _ _ _ _ (by omega) (by omega) q
      refine r_aload_n eL_law_3240 rfl ?_
      refine r_iconst (v := (0)) eL_law_3241 (by decide) ?_
      refine t_gaL eL_law_3242 q (fun v3242 q => ?_)
      refine r_iload eL_law_3243 rfl ?_
      refine r_i2l eL_law_3245 ?_
      refine t_lc_eq eL_law_3246 eL_law_3247 (t := 3252) (by decide) q (fun q => ?_) (fun q => ?_)
      · refine r_goto (t := 3352) eL_law_3252 (by decide) ?_
        refine r_iinc (v := (8)) (lv' := [_, _, _, _, _, _, _, _]) eL_law_3352 rfl (by decide) rfl ?_
        refine r_goto (t := 23) eL_law_3355 (by decide) ?_
        exact hK23 _ _ _ _ _ _ _ _ _ _ _ (by omega) (by omega) q
      refine r_iconst (v := (0)) eL_law_3250 (by decide) ?_
      exact t_rtZ eL_law_3251 rfl q
    refine r_iconst (v := (0)) eL_law_3233 (by decide) ?_
    exact t_rtZ eL_law_3234 rfl q
  refine OK_ite q (fun c34 q => ?_) (fun n34 q => ?_)
  · refine r_tsw 3255 eL_law_40 (by rw [c34]; decide) ?_
    exact hK3255 _ _ _ _ _ _ _ _ _ _ _ (by omega) (by omega) q
  refine OK_ite q (fun c35 q => ?_) (fun n35 q => ?_)
  · refine r_tsw 3291 eL_law_40 (by rw [c35]; decide) ?_
    refine r_aload_n eL_law_3291 rfl ?_
    refine r_aload_n eL_law_3292 rfl ?_
    refine r_iload eL_law_3293 rfl ?_
    refine r_iconst (v := (1)) eL_law_3295 (by decide) ?_
    refine r_iadd eL_law_3296 ?_
    refine t_gaS eL_law_3297 q (fun v3297 q => ?_)
    refine t_statIx (As := [_, _]) (rest := []) (d' := d + 10 + 2) (mc := 2) (ms := 12) eL_law_3298 k_13_268 l_13_268 rfl (by omega) (Nat.le_of_ble_eq_true rfl) (Nat.le_of_ble_eq_true rfl) (by omega) (by omega) (fun _ q => s_L_restore q) q (fun _ _ q => q.elim) (fun v3298 h3298 q => ?_)
    refine r_istore (lv' := [_, _, _, _, _, _, _, _]) eL_law_3301 (Nat.le_of_ble_eq_true rfl) rfl ?_
    refine r_aload_n eL_law_3303 rfl ?_
    refine r_aload_n eL_law_3304 rfl ?_
    refine r_iload eL_law_3305 rfl ?_
    refine r_iconst (v := (1)) eL_law_3307 (by decide) ?_
    refine r_iadd eL_law_3308 ?_
    refine t_gaS eL_law_3309 q (fun v3309 q => ?_)
    refine t_virtV (As := [_]) (rest := []) (d' := d + 11 + 1) (ci := 12) eL_law_3310 k_13_270 rfl rfl rfl (by omega) (Nat.le_of_ble_eq_true rfl) (Nat.le_of_ble_eq_true rfl) (fun _ q => s_X12_restore q) q (fun h3310 q => ?_)
    refine r_aload_n eL_law_3313 rfl ?_
    refine t_virtI (As := []) (rest := []) (d' := d + 12 + 0) (ci := 12) eL_law_3314 k_13_141 rfl rfl rfl (by omega) (Nat.le_of_ble_eq_true rfl) (Nat.le_of_ble_eq_true rfl) (fun _ q => s_X12_thrown q) q (fun v3314 h3314 q => ?_)
    refine r_iload eL_law_3317 rfl ?_
    refine t_icmp_eq eL_law_3319 (t := 3324) (by decide) q (fun q => ?_) (fun q => ?_)
    · refine r_goto (t := 3352) eL_law_3324 (by decide) ?_
      refine r_iinc (v := (8)) (lv' := [_, _, _, _, _, _, _, _]) eL_law_3352 rfl (by decide) rfl ?_
      refine r_goto (t := 23) eL_law_3355 (by decide) ?_
      exact hK23 _ _ _ _ _ _ _ _ _ _ _ (by omega) (by omega) q
    refine r_iconst (v := (0)) eL_law_3322 (by decide) ?_
    exact t_rtZ eL_law_3323 rfl q
  refine OK_ite q (fun c36 q => ?_) (fun n36 q => ?_)
  · refine r_tsw 3327 eL_law_40 (by rw [c36]; decide) ?_
    refine r_aload_n eL_law_3327 rfl ?_
    refine r_aload_n eL_law_3328 rfl ?_
    refine r_iload eL_law_3329 rfl ?_
    refine r_iconst (v := (1)) eL_law_3331 (by decide) ?_
    refine r_iadd eL_law_3332 ?_
    refine t_gaS eL_law_3333 q (fun v3333 q => ?_)
    refine t_virtI (As := [_]) (rest := []) (d' := d + 12 + 0) (ci := 11) eL_law_3334 k_13_271 rfl rfl rfl (by omega) (Nat.le_of_ble_eq_true rfl) (Nat.le_of_ble_eq_true rfl) (fun _ q => s_X11_count q) q (fun v3334 h3334 q => ?_)
    refine r_aload_n eL_law_3337 rfl ?_
    refine r_aload_n eL_law_3338 rfl ?_
    refine r_iload eL_law_3339 rfl ?_
    refine r_iconst (v := (1)) eL_law_3341 (by decide) ?_
    refine r_iadd eL_law_3342 ?_
    refine t_gaS eL_law_3343 q (fun v3343 q => ?_)
    refine t_virtI (As := [_]) (rest := [_]) (d' := d + 11 + 1) (ci := 12) eL_law_3344 k_13_274 rfl rfl rfl (by omega) (Nat.le_of_ble_eq_true rfl) (Nat.le_of_ble_eq_true rfl) (fun _ q => s_X12_count q) q (fun v3344 h3344 q => ?_)
    refine t_icmp_eq eL_law_3347 (t := 3352) (by decide) q (fun q => ?_) (fun q => ?_)
    · refine r_iinc (v := (8)) (lv' := [_, _, _, _, _, _, _, _]) eL_law_3352 rfl (by decide) rfl ?_
      refine r_goto (t := 23) eL_law_3355 (by decide) ?_
      exact hK23 _ _ _ _ _ _ _ _ _ _ _ (by omega) (by omega) q
    refine r_iconst (v := (0)) eL_law_3350 (by decide) ?_
    exact t_rtZ eL_law_3351 rfl q
  refine r_tsw 3352 eL_law_40 (tsw_d (by have z0 := ne_i n0; have z1 := ne_i n1; have z2 := ne_i n2; have z3 := ne_i n3; have z4 := ne_i n4; have z5 := ne_i n5; have z6 := ne_i n6; have z7 := ne_i n7; have z8 := ne_i n8; have z9 := ne_i n9; have z10 := ne_i n10; have z11 := ne_i n11; have z12 := ne_i n12; have z13 := ne_i n13; have z14 := ne_i n14; have z15 := ne_i n15; have z16 := ne_i n16; have z17 := ne_i n17; have z18 := ne_i n18; have z19 := ne_i n19; have z20 := ne_i n20; have z21 := ne_i n21; have z22 := ne_i n22; have z23 := ne_i n23; have z24 := ne_i n24; have z25 := ne_i n25; have z26 := ne_i n26; have z27 := ne_i n27; have z28 := ne_i n28; have z29 := ne_i n29; have z30 := ne_i n30; have z31 := ne_i n31; have z32 := ne_i n32; have z33 := ne_i n33; have z34 := ne_i n34; have z35 := ne_i n35; have z36 := ne_i n36; rw [show (0 : Int32).toInt = 0 from by decide] at z0; rw [show (1 : Int32).toInt = 1 from by decide] at z1; rw [show (2 : Int32).toInt = 2 from by decide] at z2; rw [show (3 : Int32).toInt = 3 from by decide] at z3; rw [show (4 : Int32).toInt = 4 from by decide] at z4; rw [show (5 : Int32).toInt = 5 from by decide] at z5; rw [show (6 : Int32).toInt = 6 from by decide] at z6; rw [show (7 : Int32).toInt = 7 from by decide] at z7; rw [show (8 : Int32).toInt = 8 from by decide] at z8; rw [show (9 : Int32).toInt = 9 from by decide] at z9; rw [show (10 : Int32).toInt = 10 from by decide] at z10; rw [show (11 : Int32).toInt = 11 from by decide] at z11; rw [show (12 : Int32).toInt = 12 from by decide] at z12; rw [show (13 : Int32).toInt = 13 from by decide] at z13; rw [show (14 : Int32).toInt = 14 from by decide] at z14; rw [show (15 : Int32).toInt = 15 from by decide] at z15; rw [show (16 : Int32).toInt = 16 from by decide] at z16; rw [show (17 : Int32).toInt = 17 from by decide] at z17; rw [show (18 : Int32).toInt = 18 from by decide] at z18; rw [show (19 : Int32).toInt = 19 from by decide] at z19; rw [show (20 : Int32).toInt = 20 from by decide] at z20; rw [show (21 : Int32).toInt = 21 from by decide] at z21; rw [show (22 : Int32).toInt = 22 from by decide] at z22; rw [show (23 : Int32).toInt = 23 from by decide] at z23; rw [show (24 : Int32).toInt = 24 from by decide] at z24; rw [show (25 : Int32).toInt = 25 from by decide] at z25; rw [show (26 : Int32).toInt = 26 from by decide] at z26; rw [show (27 : Int32).toInt = 27 from by decide] at z27; rw [show (28 : Int32).toInt = 28 from by decide] at z28; rw [show (29 : Int32).toInt = 29 from by decide] at z29; rw [show (30 : Int32).toInt = 30 from by decide] at z30; rw [show (31 : Int32).toInt = 31 from by decide] at z31; rw [show (32 : Int32).toInt = 32 from by decide] at z32; rw [show (33 : Int32).toInt = 33 from by decide] at z33; rw [show (34 : Int32).toInt = 34 from by decide] at z34; rw [show (35 : Int32).toInt = 35 from by decide] at z35; rw [show (36 : Int32).toInt = 36 from by decide] at z36; omega) (by decide) (by decide)) ?_
  refine r_iinc (v := (8)) (lv' := [_, _, _, _, _, _, _, _]) eL_law_3352 rfl (by decide) rfl ?_
  refine r_goto (t := 23) eL_law_3355 (by decide) ?_
  exact hK23 _ _ _ _ _ _ _ _ _ _ _ (by omega) (by omega) q
