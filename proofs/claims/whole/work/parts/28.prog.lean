def F_X0_addTelling (E : Ev) (a0 : Nat) (a1 : Nat) (x2 : Int32) (x3 : Int32) (x4 : Int32) (h : Hp) : Rs :=
  (gfI h a0 0 0).bind fun v1 =>
  if v1 < (12 : Int32) then
    (gfR h a0 0 4).bind fun v14 =>
    (gfI h a0 0 0).bind fun v18 =>
    (acp E 0 h a1 (0 : Int32) v14 (v18 * (40 : Int32)) (40 : Int32)).bind fun h26 =>
    (gfR h26 a0 0 1).bind fun v30 =>
    (gfI h26 a0 0 0).bind fun v34 =>
    (paI E h26 v30 v34 x3).bind fun h38 =>
    (gfR h38 a0 0 2).bind fun v40 =>
    (gfI h38 a0 0 0).bind fun v44 =>
    (paI E h38 v40 v44 x4).bind fun h49 =>
    (gfR h49 a0 0 3).bind fun v51 =>
    (gfI h49 a0 0 0).bind fun v55 =>
    (paI E h49 v51 v55 x2).bind fun h59 =>
    (gfI h59 a0 0 0).bind fun v62 =>
    (pf h59 a0 0 0 (.int (v62 + (1 : Int32)))).bind fun h68 =>
    rtI v62 h68
  else
    rtI (-1 : Int32) h
def F_J7_rangeCheck_23922 (E : Ev) (x0 : Int32) (x1 : Int32) (x2 : Int32) (h : Hp) : Rs :=
  if x1 ≤ x2 then
    if 0 ≤ x1 then
      if x2 ≤ x0 then
        rtV h
      else
        none
    else
      none
  else
    none
def L_J7_fill_fda19_10 (E : Ev)  (y0 : Nat) (y2 : Int32) (y3 : Int32) : Nat → Int32 → Hp → Rs
  | 0, _, _ => none
  | g + 1, y4, h =>
    if y2 ≤ y4 then
      rtV h
    else
      (paI E h y0 y4 y3).bind fun h20 =>
      L_J7_fill_fda19_10 E y0 y2 y3 g (y4 + (1 : Int32)) h20
def F_J7_fill_fda19 (E : Ev) (a0 : Nat) (x1 : Int32) (x2 : Int32) (x3 : Int32) (h : Hp) : Rs :=
  (aln E 0 h a0).bind fun v1 =>
  cV (F_J7_rangeCheck_23922 E v1 x1 x2 h) fun h4 =>
  L_J7_fill_fda19_10 E a0 x2 x3 E.2.2.1 x1 h4
def F_X11_wordOf (E : Ev) (x0 : Int32) (x1 : Int32) (x2 : Int32) (h : Hp) : Rs :=
  rtI ((x0 ||| (x1 <<< ((4 : Int32) &&& 31))) ||| (x2 <<< ((9 : Int32) &&& 31))) h
def J_X11_listedWord_80 (E : Ev)  (y0 : Int32) (t0 : Int32) (h : Hp) : Rs :=
  if (28 : Int32) < y0 then
    cI (F_X11_wordOf E t0 (2 : Int32) (15 : Int32) h) fun v93 h93 =>
    rtI v93 h93
  else
    cI (F_X11_wordOf E t0 (1 : Int32) (15 : Int32) h) fun v93 h93 =>
    rtI v93 h93
def F_X11_listedWord (E : Ev) (x0 : Int32) (h : Hp) : Rs :=
  if ¬ x0 = 0 then
    if (2 : Int32) < x0 then
      if (14 : Int32) < x0 then
        if (26 : Int32) < x0 then
          if (x0 &&& (1 : Int32)) = 0 then
            J_X11_listedWord_80 E x0 (12 : Int32) h
          else
            J_X11_listedWord_80 E x0 (11 : Int32) h
        else
          cI (F_X11_wordOf E (3 : Int32) (0 : Int32) (x0 - (15 : Int32)) h) fun v63 h63 =>
          rtI v63 h63
      else
        cI (F_X11_wordOf E (2 : Int32) (0 : Int32) (x0 - (3 : Int32)) h) fun v47 h47 =>
        rtI v47 h47
    else
      if ¬ x0 = (1 : Int32) then
        cI (F_X11_wordOf E (10 : Int32) (0 : Int32) (15 : Int32) h) fun v32 h32 =>
        rtI v32 h32
      else
        cI (F_X11_wordOf E (9 : Int32) (0 : Int32) (15 : Int32) h) fun v32 h32 =>
        rtI v32 h32
  else
    cI (F_X11_wordOf E (1 : Int32) (1 : Int32) (15 : Int32) h) fun v8 h8 =>
    rtI v8 h8
def L_X0_addListed_38 (E : Ev) (K83 : Hp → Rs) (y0 : Nat) (y1 : Nat) (y4 : Int32) : Nat → Int32 → Hp → Rs
  | 0, _, _ => none
  | g + 1, y5, h =>
    (gfI h y1 8 2).bind fun v41 =>
    if v41 ≤ y5 then
      K83 h
    else
      if (10 : Int32) ≤ y5 then
        K83 h
      else
        (gfR h y0 0 4).bind fun v55 =>
        (gfR h y1 8 3).bind fun v66 =>
        (gaL E h v66 y5).bind fun v71 =>
        cI (F_X11_listedWord E ((v71).toInt32) h) fun v73 h73 =>
        (paI E h73 v55 (y4 + (y5 * (4 : Int32))) v73).bind fun h76 =>
        L_X0_addListed_38 E K83 y0 y1 y4 g (y5 + (1 : Int32)) h76
def J_X0_addListed_83 (E : Ev)  (y0 : Nat) (y1 : Nat) (y2 : Int32) (y3 : Int32) (h : Hp) : Rs :=
  (gfR h y0 0 1).bind fun v84 =>
  (gfI h y0 0 0).bind fun v88 =>
  (paI E h v84 v88 y2).bind fun h92 =>
  (gfR h92 y0 0 2).bind fun v94 =>
  (gfI h92 y0 0 0).bind fun v98 =>
  (paI E h92 v94 v98 y3).bind fun h102 =>
  (gfR h102 y0 0 3).bind fun v104 =>
  (gfI h102 y0 0 0).bind fun v108 =>
  (gfI h102 y1 8 2).bind fun v112 =>
  (paI E h102 v104 v108 v112).bind fun h115 =>
  (gfI h115 y0 0 0).bind fun v118 =>
  (pf h115 y0 0 0 (.int (v118 + (1 : Int32)))).bind fun h124 =>
  rtI v118 h124
def F_X0_addListed (E : Ev) (a0 : Nat) (a1 : Nat) (x2 : Int32) (x3 : Int32) (h : Hp) : Rs :=
  (gfI h a0 0 0).bind fun v1 =>
  if v1 < (12 : Int32) then
    (gfI h a0 0 0).bind fun v12 =>
    (gfR h a0 0 4).bind fun v21 =>
    cV (F_J7_fill_fda19 E v21 (v12 * (40 : Int32)) ((v12 * (40 : Int32)) + (40 : Int32)) (0 : Int32) h) fun h32 =>
    L_X0_addListed_38 E
      (fun h2 =>
        J_X0_addListed_83 E a0 a1 x2 x3 h2)
      a0 a1 (v12 * (40 : Int32)) E.2.2.1 (0 : Int32) h32
  else
    rtI (-1 : Int32) h
def F_X0_addRecord (E : Ev) (a0 : Nat) (x1 : Int32) (x2 : Int32) (x3 : Int32) (x4 : Int32) (x5 : Int32) (h : Hp) : Rs :=
  (gfI h a0 0 5).bind fun v1 =>
  if v1 < (30 : Int32) then
    (gfR h a0 0 6).bind fun v12 =>
    (gfI h a0 0 5).bind fun v16 =>
    (paI E h v12 v16 x1).bind fun h20 =>
    (gfR h20 a0 0 7).bind fun v22 =>
    (gfI h20 a0 0 5).bind fun v26 =>
    (paI E h20 v22 v26 x2).bind fun h30 =>
    (gfR h30 a0 0 8).bind fun v32 =>
    (gfI h30 a0 0 5).bind fun v36 =>
    (paI E h30 v32 v36 x3).bind fun h40 =>
    (gfR h40 a0 0 9).bind fun v42 =>
    (gfI h40 a0 0 5).bind fun v46 =>
    (paI E h40 v42 v46 x4).bind fun h51 =>
    (gfR h51 a0 0 10).bind fun v53 =>
    (gfI h51 a0 0 5).bind fun v57 =>
    (paI E h51 v53 v57 x5).bind fun h62 =>
    (gfI h62 a0 0 5).bind fun v65 =>
    (pf h62 a0 0 5 (.int (v65 + (1 : Int32)))).bind fun h70 =>
    (gfI h70 a0 0 5).bind fun v74 =>
    rtI v74 h70
  else
    rtI (-1 : Int32) h
def L_X0_recordsOf_5 (E : Ev)  (y0 : Nat) (y1 : Int32) (y2 : Int32) : Nat → Int32 → Int32 → Hp → Rs
  | 0, _, _, _ => none
  | g + 1, y3, y4, h =>
    (gfI h y0 0 5).bind fun v8 =>
    if v8 ≤ y4 then
      rtI y3 h
    else
      (gfR h y0 0 7).bind fun v15 =>
      (gaI E 0 h v15 y4).bind fun v20 =>
      (gfR h y0 0 2).bind fun v24 =>
      (gaI E 0 h v24 v20).bind fun v29 =>
      if ¬ v29 = y1 then
        L_X0_recordsOf_5 E y0 y1 y2 g y3 (y4 + (1 : Int32)) h
      else
        if y2 = 0 then
          L_X0_recordsOf_5 E y0 y1 y2 g (y3 + (1 : Int32)) (y4 + (1 : Int32)) h
        else
          (gfR h y0 0 10).bind fun v39 =>
          (gaI E 0 h v39 y4).bind fun v44 =>
          (gfR h y0 0 1).bind fun v46 =>
          (gaI E 0 h v46 v20).bind fun v51 =>
          if ¬ v44 = v51 then
            L_X0_recordsOf_5 E y0 y1 y2 g y3 (y4 + (1 : Int32)) h
          else
            L_X0_recordsOf_5 E y0 y1 y2 g (y3 + (1 : Int32)) (y4 + (1 : Int32)) h
def F_X0_recordsOf (E : Ev) (a0 : Nat) (x1 : Int32) (x2 : Int32) (h : Hp) : Rs :=
  L_X0_recordsOf_5 E a0 x1 x2 E.2.2.1 (0 : Int32) (0 : Int32) h
def F_X0_take (E : Ev) (a0 : Nat) (a1 : Nat) (h : Hp) : Rs :=
  (gfI h a1 0 0).bind fun v2 =>
  (pf h a0 0 0 (.int v2)).bind fun h5 =>
  (gfR h5 a1 0 1).bind fun v9 =>
  (gfR h5 a0 0 1).bind fun v14 =>
  (acp E 0 h5 v9 (0 : Int32) v14 (0 : Int32) (12 : Int32)).bind fun h20 =>
  (gfR h20 a1 0 2).bind fun v24 =>
  (gfR h20 a0 0 2).bind fun v29 =>
  (acp E 0 h20 v24 (0 : Int32) v29 (0 : Int32) (12 : Int32)).bind fun h35 =>
  (gfR h35 a1 0 3).bind fun v39 =>
  (gfR h35 a0 0 3).bind fun v44 =>
  (acp E 0 h35 v39 (0 : Int32) v44 (0 : Int32) (12 : Int32)).bind fun h50 =>
  (gfR h50 a1 0 4).bind fun v54 =>
  (gfR h50 a0 0 4).bind fun v59 =>
  (acp E 0 h50 v54 (0 : Int32) v59 (0 : Int32) (480 : Int32)).bind fun h66 =>
  (gfI h66 a1 0 5).bind fun v71 =>
  (pf h66 a0 0 5 (.int v71)).bind fun h74 =>
  (gfR h74 a1 0 6).bind fun v78 =>
  (gfR h74 a0 0 6).bind fun v83 =>
  (acp E 0 h74 v78 (0 : Int32) v83 (0 : Int32) (30 : Int32)).bind fun h89 =>
  (gfR h89 a1 0 7).bind fun v93 =>
  (gfR h89 a0 0 7).bind fun v98 =>
  (acp E 0 h89 v93 (0 : Int32) v98 (0 : Int32) (30 : Int32)).bind fun h104 =>
  (gfR h104 a1 0 8).bind fun v108 =>
  (gfR h104 a0 0 8).bind fun v113 =>
  (acp E 0 h104 v108 (0 : Int32) v113 (0 : Int32) (30 : Int32)).bind fun h119 =>
  (gfR h119 a1 0 9).bind fun v123 =>
  (gfR h119 a0 0 9).bind fun v128 =>
  (acp E 0 h119 v123 (0 : Int32) v128 (0 : Int32) (30 : Int32)).bind fun h134 =>
  (gfR h134 a1 0 10).bind fun v138 =>
  (gfR h134 a0 0 10).bind fun v143 =>
  (acp E 0 h134 v138 (0 : Int32) v143 (0 : Int32) (30 : Int32)).bind fun h149 =>
  rtV h149
def F_X11_isIn (E : Ev) (x0 : Int64) (x2 : Int32) (h : Hp) : Rs :=
  if ((x0 >>> ((x2).toInt64 &&& 63)) &&& (1 : Int64)) = (0 : Int64) then
    rtZ (0 : Int32) h
  else
    rtZ (1 : Int32) h
def F_X6_add (E : Ev) (a0 : Nat) (x1 : Int32) (h : Hp) : Rs :=
  lt (x1 >>> ((1 : Int32) &&& 31)) fun u1 =>
  (gfR h a0 6 0).bind fun v5 =>
  (gaL E h v5 (((2 : Int32) * (x1 &&& (1 : Int32))) + (u1 >>> ((6 : Int32) &&& 31)))).bind fun v19 =>
  (paL E h v5 (((2 : Int32) * (x1 &&& (1 : Int32))) + (u1 >>> ((6 : Int32) &&& 31))) (v19 ||| ((1 : Int64) <<< (((u1 &&& (63 : Int32))).toInt64 &&& 63)))).bind fun h27 =>
  rtV h27
def L_J7_fill_d0a16_6 (E : Ev)  (y0 : Nat) (y1 : Int64) (y4 : Int32) : Nat → Int32 → Hp → Rs
  | 0, _, _ => none
  | g + 1, y3, h =>
    if y4 ≤ y3 then
      rtV h
    else
      (paL E h y0 y3 y1).bind fun h15 =>
      L_J7_fill_d0a16_6 E y0 y1 y4 g (y3 + (1 : Int32)) h15
def F_J7_fill_d0a16 (E : Ev) (a0 : Nat) (x1 : Int64) (h : Hp) : Rs :=
  (aln E 1 h a0).bind fun v3 =>
  L_J7_fill_d0a16_6 E a0 x1 v3 E.2.2.1 (0 : Int32) h
def F_X6_clear (E : Ev) (a0 : Nat) (h : Hp) : Rs :=
  (gfR h a0 6 0).bind fun v1 =>
  cV (F_J7_fill_d0a16 E v1 (0 : Int64) h) fun h5 =>
  rtV h5
def L_X1_begin_15 (E : Ev)  (y0 : Nat) (y1 : Int32) (y2 : Int32) : Nat → Int32 → Hp → Rs
  | 0, _, _ => none
  | g + 1, y4, h =>
    if (8 : Int32) ≤ y4 then
      rtV h
    else
      cI (F_X11_isIn E ((y1).toInt64) y4 h) fun v26 h26 =>
      if v26 = 0 then
        L_X1_begin_15 E y0 y1 y2 g (y4 + (1 : Int32)) h26
      else
        (gfR h26 y0 1 0).bind fun v44 =>
        (gfR h26 v44 9 0).bind fun v47 =>
        (gfR h26 v47 10 0).bind fun v50 =>
        (gfI h26 v50 3 3).bind fun v53 =>
        lt ((y4 * (240 : Int32)) + ((4 : Int32) * v53)) fun u1 =>
        (gfR h26 y0 1 5).bind fun v61 =>
        cV (F_J7_fill_fda19 E v61 (y4 * (240 : Int32)) u1 (0 : Int32) h26) fun h69 =>
        (gfR h69 y0 1 6).bind fun v73 =>
        cV (F_J7_fill_fda19 E v73 (y4 * (240 : Int32)) u1 (0 : Int32) h69) fun h81 =>
        (gfR h81 y0 1 7).bind fun v85 =>
        cV (F_J7_fill_fda19 E v85 (y4 * (240 : Int32)) u1 (0 : Int32) h81) fun h93 =>
        (gfR h93 y0 1 4).bind fun v97 =>
        (gaR E 8 h93 v97 y4).join.bind fun v102 =>
        (isO h93 v102 6).bind fun _ => cV (F_X6_clear E v102 h93) fun h103 =>
        (gfR h103 y0 1 4).bind fun v107 =>
        (gaR E 8 h103 v107 y4).join.bind fun v112 =>
        (isO h103 v112 6).bind fun _ => cV (F_X6_add E v112 y2 h103) fun h114 =>
        L_X1_begin_15 E y0 y1 y2 g (y4 + (1 : Int32)) h114
def F_X1_begin (E : Ev) (a0 : Nat) (x1 : Int32) (x2 : Int32) (x3 : Int32) (h : Hp) : Rs :=
  (pf h a0 1 1 (.int x1)).bind fun h2 =>
  (pf h2 a0 1 2 (.long ((1 : Int64) <<< ((x3).toInt64 &&& 63)))).bind fun h9 =>
  L_X1_begin_15 E a0 x1 x2 E.2.2.1 (0 : Int32) h9
def F_J13_bitCount_95d88 (E : Ev) (x0 : Int64) (h : Hp) : Rs :=
  lt (x0 - (((x0).toUInt64 >>> (((1 : Int32)).toInt64.toUInt64 &&& Int64.toUInt64 63)).toInt64 &&& (6148914691236517205 : Int64))) fun u1 =>
  lt ((u1 &&& (3689348814741910323 : Int64)) + (((u1).toUInt64 >>> (((2 : Int32)).toInt64.toUInt64 &&& Int64.toUInt64 63)).toInt64 &&& (3689348814741910323 : Int64))) fun u2 =>
  lt ((u2 + ((u2).toUInt64 >>> (((4 : Int32)).toInt64.toUInt64 &&& Int64.toUInt64 63)).toInt64) &&& (1085102592571150095 : Int64)) fun u3 =>
  lt (u3 + ((u3).toUInt64 >>> (((8 : Int32)).toInt64.toUInt64 &&& Int64.toUInt64 63)).toInt64) fun u4 =>
  lt (u4 + ((u4).toUInt64 >>> (((16 : Int32)).toInt64.toUInt64 &&& Int64.toUInt64 63)).toInt64) fun u5 =>
  lt (u5 + ((u5).toUInt64 >>> (((32 : Int32)).toInt64.toUInt64 &&& Int64.toUInt64 63)).toInt64) fun u6 =>
  rtI (((u6).toInt32) &&& (127 : Int32)) h
def F_X11_lowest (E : Ev) (x0 : Int64) (h : Hp) : Rs :=
  cI (F_J13_bitCount_95d88 E ((x0 &&& (-x0)) - (1 : Int64)) h) fun v6 h6 =>
  rtI v6 h6
def F_X6_isEmpty (E : Ev) (a0 : Nat) (h : Hp) : Rs :=
  (gfR h a0 6 0).bind fun v1 =>
  (gaL E h v1 (0 : Int32)).bind fun v5 =>
  (gfR h a0 6 0).bind fun v7 =>
  (gaL E h v7 (1 : Int32)).bind fun v11 =>
  (gfR h a0 6 0).bind fun v14 =>
  (gaL E h v14 (2 : Int32)).bind fun v18 =>
  (gfR h a0 6 0).bind fun v21 =>
  (gaL E h v21 (3 : Int32)).bind fun v25 =>
  if ¬ (((v5 ||| v11) ||| v18) ||| v25) = (0 : Int64) then
    rtZ (0 : Int32) h
  else
    rtZ (1 : Int32) h
def F_X6_stateOf (E : Ev) (x0 : Int32) (x1 : Int32) (h : Hp) : Rs :=
  rtI (((2 : Int32) * (((64 : Int32) * (x0 &&& (1 : Int32))) + x1)) + (x0 >>> ((1 : Int32) &&& 31))) h
def J_X6_list_80 (E : Ev) (K33 : Int32 → Int64 → Int32 → Hp → Rs) (y0 : Nat) (y1 : Nat) (y2 : Int32) (y3 : Int32) (y4 : Int64) (y6 : Int32) (y7 : Int32) (h : Hp) : Rs :=
  (gfR h y0 6 0).bind fun v81 =>
  (gaL E h v81 (y3 + (2 : Int32))).bind fun v87 =>
  cI (F_X11_isIn E v87 y7 h) fun v90 h90 =>
  if v90 = 0 then
    K33 y2 y4 (y6 + (-1 : Int32)) h90
  else
    cI (F_X6_stateOf E (y3 + (2 : Int32)) y7 h90) fun v106 h106 =>
    (paI E h106 y1 y2 v106).bind fun h109 =>
    K33 (y2 + (1 : Int32)) y4 (y6 + (-1 : Int32)) h109
def L_X6_list_33 (E : Ev) (K116 : Int32 → Hp → Rs) (y0 : Nat) (y1 : Nat) (y3 : Int32) : Nat → Int32 → Int64 → Int32 → Hp → Rs
  | 0, _, _, _, _ => none
  | g + 1, y2, y4, y6, h =>
    if y6 ≤ 0 then
      K116 y2 h
    else
      cI (F_X11_lowest E y4 h) fun v40 h40 =>
      lt (y4 &&& (y4 - (1 : Int64))) fun u1 =>
      (gfR h40 y0 6 0).bind fun v55 =>
      (gaL E h40 v55 y3).bind fun v59 =>
      cI (F_X11_isIn E v59 v40 h40) fun v62 h62 =>
      if v62 = 0 then
        J_X6_list_80 E
          (fun w2 w3 w4 h6 =>
            L_X6_list_33 E K116 y0 y1 y3 g w2 w3 w4 h6)
          y0 y1 y2 y3 u1 y6 v40 h62
      else
        cI (F_X6_stateOf E y3 v40 h62) fun v76 h76 =>
        (paI E h76 y1 y2 v76).bind fun h79 =>
        J_X6_list_80 E
          (fun w7 w8 w9 h11 =>
            L_X6_list_33 E K116 y0 y1 y3 g w7 w8 w9 h11)
          y0 y1 (y2 + (1 : Int32)) y3 u1 y6 v40 h79
def L_X6_list_4 (E : Ev)  (y0 : Nat) (y1 : Nat) : Nat → Int32 → Int32 → Hp → Rs
  | 0, _, _, _ => none
  | g + 1, y2, y3, h =>
    if (2 : Int32) ≤ y3 then
      rtI y2 h
    else
      (gfR h y0 6 0).bind fun v10 =>
      (gaL E h v10 y3).bind fun v14 =>
      (gfR h y0 6 0).bind fun v16 =>
      (gaL E h v16 (y3 + (2 : Int32))).bind fun v22 =>
      cI (F_J13_bitCount_95d88 E (v14 ||| v22) h) fun v28 h28 =>
      L_X6_list_33 E
        (fun w1 h5 =>
          L_X6_list_4 E y0 y1 g w1 (y3 + (1 : Int32)) h5)
        y0 y1 y3 E.2.2.1 y2 (v14 ||| v22) v28 h28
def F_X6_list (E : Ev) (a0 : Nat) (a1 : Nat) (h : Hp) : Rs :=
  L_X6_list_4 E a0 a1 E.2.2.1 (0 : Int32) (0 : Int32) h
def F_X9_become (E : Ev) (a0 : Nat) (x1 : Int32) (h : Hp) : Rs :=
  (pf h a0 9 6 (.int x1)).bind fun h2 =>
  rtV h2
def L_X7_clearNow_2 (E : Ev)  (y0 : Nat) : Nat → Int32 → Hp → Rs
  | 0, _, _ => none
  | g + 1, y1, h =>
    (gfI h y0 7 1).bind fun v4 =>
    if v4 ≤ y1 then
      (pf h y0 7 1 (.int (0 : Int32))).bind fun h30 =>
      rtV h30
    else
      (gfR h y0 7 3).bind fun v11 =>
      (gfR h y0 7 2).bind fun v15 =>
      (gaI E 0 h v15 y1).bind fun v19 =>
      (paL E h v11 v19 (0 : Int64)).bind fun h21 =>
      L_X7_clearNow_2 E y0 g (y1 + (1 : Int32)) h21
def F_X7_clearNow (E : Ev) (a0 : Nat) (h : Hp) : Rs :=
  L_X7_clearNow_2 E a0 E.2.2.1 (0 : Int32) h
def F_X7_begin (E : Ev) (a0 : Nat) (a1 : Nat) (x2 : Int32) (x3 : Int32) (x4 : Int64) (h : Hp) : Rs :=
  (isO h a0 7).bind fun _ => cV (F_X7_clearNow E a0 h) fun h1 =>
  (pf h1 a0 7 7 (.ref a1)).bind fun h6 =>
  (pf h6 a0 7 8 (.int x2)).bind fun h11 =>
  (pf h11 a0 7 9 (.int x3)).bind fun h16 =>
  (pf h16 a0 7 10 (.long x4)).bind fun h22 =>
  rtV h22
def L_X9_goBack_3 (E : Ev)  (y0 : Nat) (y1 : Nat) (y2 : Int32) (y3 : Nat) : Nat → Int32 → Hp → Rs
  | 0, _, _ => none
  | g + 1, y4, h =>
    if y2 ≤ y4 then
      rtV h
    else
      (gaI E 0 h y1 y4).bind fun v12 =>
      if ¬ (v12 &&& (1 : Int32)) = 0 then
        L_X9_goBack_3 E y0 y1 y2 y3 g (y4 + (1 : Int32)) h
      else
        (gfR h y0 9 0).bind fun v19 =>
        (gfL h v19 10 4).bind fun v22 =>
        (gaI E 0 h y1 y4).bind fun v28 =>
        cI (F_X11_isIn E v22 (v28 >>> ((2 : Int32) &&& 31)) h) fun v31 h31 =>
        if v31 = 0 then
          L_X9_goBack_3 E y0 y1 y2 y3 g (y4 + (1 : Int32)) h31
        else
          (gaI E 0 h31 y1 y4).bind fun v41 =>
          (isO h31 y3 6).bind fun _ => cV (F_X6_add E y3 (v41 ^^^ (2 : Int32)) h31) fun h44 =>
          L_X9_goBack_3 E y0 y1 y2 y3 g (y4 + (1 : Int32)) h44
def F_X9_goBack (E : Ev) (a0 : Nat) (a1 : Nat) (x2 : Int32) (a3 : Nat) (h : Hp) : Rs :=
  L_X9_goBack_3 E a0 a1 x2 a3 E.2.2.1 (0 : Int32) h
def L_J7_fill_bad5a_10 (E : Ev)  (y0 : Nat) (y2 : Int32) (y3 : Int64) : Nat → Int32 → Hp → Rs
  | 0, _, _ => none
  | g + 1, y5, h =>
    if y2 ≤ y5 then
      rtV h
    else
      (paL E h y0 y5 y3).bind fun h20 =>
      L_J7_fill_bad5a_10 E y0 y2 y3 g (y5 + (1 : Int32)) h20
def F_J7_fill_bad5a (E : Ev) (a0 : Nat) (x1 : Int32) (x2 : Int32) (x3 : Int64) (h : Hp) : Rs :=
  (aln E 1 h a0).bind fun v1 =>
  cV (F_J7_rangeCheck_23922 E v1 x1 x2 h) fun h4 =>
  L_J7_fill_bad5a_10 E a0 x2 x3 E.2.2.1 x1 h4
def J_X10_look_337 (E : Ev) (K120 : Int64 → Int64 → Int64 → Int32 → Hp → Rs) (y0 : Nat) (y2 : Int32) (y4 : Int32) (y5 : Int32) (y6 : Int32) (y7 : Int64) (y9 : Int64) (y11 : Int32) (y12 : Int64) (y14 : Int32) (y15 : Int64) (y28 : Int64) (h : Hp) : Rs :=
  if y28 < (0 : Int64) then
    K120 y7 y9 y12 (y14 + (-1 : Int32)) h
  else
    (gfR h y0 10 11).bind fun v345 =>
    (gaL E h v345 ((y2 + (6 : Int32)) + y11)).bind fun v356 =>
    (paL E h v345 ((y2 + (6 : Int32)) + y11) (v356 ||| y15)).bind fun h360 =>
    K120 y7 y9 y12 (y14 + (-1 : Int32)) h360
def J_X10_look_307 (E : Ev) (K120 : Int64 → Int64 → Int64 → Int32 → Hp → Rs) (y0 : Nat) (y2 : Int32) (y4 : Int32) (y5 : Int32) (y6 : Int32) (y11 : Int32) (y12 : Int64) (y14 : Int32) (y15 : Int64) (y24 : Int64) (y26 : Int64) (y28 : Int64) (h : Hp) : Rs :=
  (gfR h y0 10 11).bind fun v316 =>
  (paL E h v316 (y2 + (6 : Int32)) (0 : Int64)).bind fun h324 =>
  (gfR h324 y0 10 11).bind fun v326 =>
  (paL E h324 v326 ((y2 + (6 : Int32)) + (1 : Int32)) (0 : Int64)).bind fun h336 =>
  J_X10_look_337 E K120 y0 y2 y4 y5 y6 y24 y26 y11 y12 y14 y15 y28 h336
def J_X10_look_221 (E : Ev) (K120 : Int64 → Int64 → Int64 → Int32 → Hp → Rs) (y0 : Nat) (y2 : Int32) (y4 : Int32) (y5 : Int32) (y6 : Int32) (y7 : Int64) (y9 : Int64) (y11 : Int32) (y12 : Int64) (y14 : Int32) (y15 : Int64) (y18 : Int32) (y19 : Int32) (t0 : Int32) (h : Hp) : Rs :=
  (gfR h y0 10 11).bind fun v224 =>
  (gaL E h v224 ((y2 + ((2 : Int32) * t0)) + y11)).bind fun v237 =>
  (paL E h v224 ((y2 + ((2 : Int32) * t0)) + y11) (v237 ||| y15)).bind fun h241 =>
  lt ((((y5 * y18) + (y6 * y19))).toInt64) fun u1 =>
  lt (u1 * (if 0 < u1 then u1 else -u1)) fun u2 =>
  lt ((((y18 * y18) + (y19 * y19))).toInt64) fun u3 =>
  if y9 = (0 : Int64) then
    J_X10_look_307 E K120 y0 y2 y4 y5 y6 y11 y12 y14 y15 u2 u3 ((u2 * y9) - (y7 * u3)) h241
  else
    if ((u2 * y9) - (y7 * u3)) ≤ (0 : Int64) then
      J_X10_look_337 E K120 y0 y2 y4 y5 y6 y7 y9 y11 y12 y14 y15 ((u2 * y9) - (y7 * u3)) h241
    else
      J_X10_look_307 E K120 y0 y2 y4 y5 y6 y11 y12 y14 y15 u2 u3 ((u2 * y9) - (y7 * u3)) h241
def L_X10_look_120 (E : Ev) (K367 : Int64 → Int64 → Hp → Rs) (y0 : Nat) (y2 : Int32) (y4 : Int32) (y5 : Int32) (y6 : Int32) (y11 : Int32) : Nat → Int64 → Int64 → Int64 → Int32 → Hp → Rs
  | 0, _, _, _, _, _ => none
  | g + 1, y7, y9, y12, y14, h =>
    if y14 ≤ 0 then
      K367 y7 y9 h
    else
      lt (y12 ^^^ (y12 &&& (-y12))) fun u1 =>
      cI (F_J13_bitCount_95d88 E ((y12 &&& (-y12)) - (1 : Int64)) h) fun v149 h149 =>
      lt (((64 : Int32) * y11) + v149) fun u2 =>
      if ¬ u2 = y4 then
        (gfR h149 y0 10 0).bind fun v166 =>
        (gfR h149 v166 3 9).bind fun v169 =>
        (gaI E 0 h149 v169 u2).bind fun v174 =>
        (gfR h149 y0 10 0).bind fun v178 =>
        (gfR h149 v178 3 10).bind fun v181 =>
        (gaI E 0 h149 v181 u2).bind fun v186 =>
        lt ((y5 * v186) - (y6 * v174)) fun u3 =>
        if u3 ≤ 0 then
          if 0 ≤ u3 then
            J_X10_look_221 E
              (fun w4 w5 w6 w7 h23 =>
                L_X10_look_120 E K367 y0 y2 y4 y5 y6 y11 g w4 w5 w6 w7 h23)
              y0 y2 y4 y5 y6 y7 y9 y11 u1 y14 (y12 &&& (-y12)) v174 v186 (2 : Int32) h149
          else
            J_X10_look_221 E
              (fun w24 w25 w26 w27 h43 =>
                L_X10_look_120 E K367 y0 y2 y4 y5 y6 y11 g w24 w25 w26 w27 h43)
              y0 y2 y4 y5 y6 y7 y9 y11 u1 y14 (y12 &&& (-y12)) v174 v186 (1 : Int32) h149
        else
          J_X10_look_221 E
            (fun w44 w45 w46 w47 h63 =>
              L_X10_look_120 E K367 y0 y2 y4 y5 y6 y11 g w44 w45 w46 w47 h63)
            y0 y2 y4 y5 y6 y7 y9 y11 u1 y14 (y12 &&& (-y12)) v174 v186 (0 : Int32) h149
      else
        L_X10_look_120 E K367 y0 y2 y4 y5 y6 y11 g y7 y9 u1 (y14 + (-1 : Int32)) h149
def L_X10_look_86 (E : Ev)  (y0 : Nat) (y1 : Int32) (y2 : Int32) (y4 : Int32) (y5 : Int32) (y6 : Int32) : Nat → Int64 → Int64 → Int32 → Hp → Rs
  | 0, _, _, _, _ => none
  | g + 1, y7, y9, y11, h =>
    if (2 : Int32) ≤ y11 then
      rtI y2 h
    else
      (gfR h y0 10 6).bind fun v93 =>
      (gfR h y0 10 0).bind fun v98 =>
      (gfR h v98 3 8).bind fun v101 =>
      (gaI E 0 h v101 y1).bind fun v105 =>
      (gaL E h v93 (((2 : Int32) * v105) + y11)).bind fun v110 =>
      cI (F_J13_bitCount_95d88 E v110 h) fun v115 h115 =>
      L_X10_look_120 E
        (fun w1 w2 h20 =>
          L_X10_look_86 E y0 y1 y2 y4 y5 y6 g w1 w2 (y11 + (1 : Int32)) h20)
        y0 y2 y4 y5 y6 y11 E.2.2.1 y7 y9 v110 v115 h115
def J_X10_look_53 (E : Ev)  (y0 : Nat) (y1 : Int32) (y2 : Int32) (y3 : Int32) (t0 : Int32) (h : Hp) : Rs :=
  (gfR h y0 10 0).bind fun v56 =>
  (gfR h v56 3 9).bind fun v59 =>
  (gaI E 0 h v59 y3).bind fun v63 =>
  (gfR h y0 10 0).bind fun v67 =>
  (gfR h v67 3 10).bind fun v70 =>
  (gaI E 0 h v70 y3).bind fun v74 =>
  L_X10_look_86 E y0 y1 y2 t0 v63 v74 E.2.2.1 (0 : Int64) (0 : Int64) (0 : Int32) h
def F_X10_look (E : Ev) (a0 : Nat) (x1 : Int32) (h : Hp) : Rs :=
  (gfR h a0 10 10).bind fun v6 =>
  (gaI E 2 h v6 x1).bind fun v10 =>
  if v10 = 0 then
    (gfR h a0 10 10).bind fun v17 =>
    (paZ E h v17 x1 (1 : Int32)).bind fun h22 =>
    (gfR h22 a0 10 11).bind fun v24 =>
    cV (F_J7_fill_bad5a E v24 (x1 * (8 : Int32)) ((x1 * (8 : Int32)) + (8 : Int32)) (0 : Int64) h22) fun h33 =>
    lt (x1 >>> ((1 : Int32) &&& 31)) fun u1 =>
    if ¬ (x1 &&& (1 : Int32)) = 0 then
      J_X10_look_53 E a0 x1 (x1 * (8 : Int32)) u1 (-1 : Int32) h33
    else
      J_X10_look_53 E a0 x1 (x1 * (8 : Int32)) u1 (u1 ^^^ (1 : Int32)) h33
  else
    rtI (x1 * (8 : Int32)) h
def J_X7_carry_154 (E : Ev) (K33 : Int64 → Int32 → Hp → Rs) (y0 : Nat) (y2 : Int64) (y4 : Int32) (y5 : Int64) (y7 : Int32) (y8 : Int32) (y9 : Int64) (h : Hp) : Rs :=
  (gfR h y0 7 6).bind fun v155 =>
  (gaL E h v155 y8).bind fun v161 =>
  (paL E h v155 y8 (v161 ||| y9)).bind fun h165 =>
  K33 y5 (y7 + (-1 : Int32)) h165
def J_X7_carry_117 (E : Ev) (K33 : Int64 → Int32 → Hp → Rs) (y0 : Nat) (y2 : Int64) (y4 : Int32) (y5 : Int64) (y7 : Int32) (y8 : Int32) (y9 : Int64) (h : Hp) : Rs :=
  if y9 = (0 : Int64) then
    K33 y5 (y7 + (-1 : Int32)) h
  else
    (gfR h y0 7 6).bind fun v125 =>
    (gaL E h v125 y8).bind fun v130 =>
    if ¬ v130 = (0 : Int64) then
      J_X7_carry_154 E K33 y0 y2 y4 y5 y7 y8 y9 h
    else
      (gfR h y0 7 5).bind fun v137 =>
      (gfI h y0 7 4).bind fun v142 =>
      (pf h y0 7 4 (.int (v142 + (1 : Int32)))).bind fun h148 =>
      (paI E h148 v137 v142 y8).bind fun h153 =>
      J_X7_carry_154 E K33 y0 y2 y4 y5 y7 y8 y9 h153
def L_X7_carry_33 (E : Ev) (K172 : Hp → Rs) (y0 : Nat) (y2 : Int64) (y4 : Int32) : Nat → Int64 → Int32 → Hp → Rs
  | 0, _, _, _ => none
  | g + 1, y5, y7, h =>
    if y7 ≤ 0 then
      K172 h
    else
      cI (F_J13_bitCount_95d88 E ((y5 &&& (-y5)) - (1 : Int64)) h) fun v51 h51 =>
      lt (((64 : Int32) * y4) + v51) fun u1 =>
      lt (y5 &&& (y5 - (1 : Int64))) fun u2 =>
      (gfL h51 y0 7 10).bind fun v70 =>
      if v70 = (0 : Int64) then
        J_X7_carry_117 E
          (fun w3 w4 h9 =>
            L_X7_carry_33 E K172 y0 y2 y4 g w3 w4 h9)
          y0 y2 y4 u2 y7 u1 y2 h51
      else
        (gfR h51 y0 7 0).bind fun v79 =>
        (gfR h51 v79 10 0).bind fun v82 =>
        (gfR h51 v82 3 5).bind fun v85 =>
        (gaI E 0 h51 v85 (u1 >>> ((1 : Int32) &&& 31))).bind fun v92 =>
        if (64 : Int32) ≤ v92 then
          J_X7_carry_117 E
            (fun w10 w11 h16 =>
              L_X7_carry_33 E K172 y0 y2 y4 g w10 w11 h16)
            y0 y2 y4 u2 y7 u1 (0 : Int64) h51
        else
          (gfL h51 y0 7 10).bind fun v107 =>
          lt ((y2 <<< ((v92).toInt64 &&& 63)) &&& v107) fun u17 =>
          J_X7_carry_117 E
            (fun w18 w19 h24 =>
              L_X7_carry_33 E K172 y0 y2 y4 g w18 w19 h24)
            y0 y2 y4 u2 y7 u1 u17 h51
def L_X7_carry_3 (E : Ev)  (y0 : Nat) (y1 : Int32) (y2 : Int64) : Nat → Int32 → Hp → Rs
  | 0, _, _ => none
  | g + 1, y4, h =>
    if (2 : Int32) ≤ y4 then
      rtV h
    else
      (gfR h y0 7 0).bind fun v10 =>
      (gfR h v10 10 11).bind fun v13 =>
      (gaL E h v13 ((y1 + (6 : Int32)) + y4)).bind fun v23 =>
      cI (F_J13_bitCount_95d88 E v23 h) fun v28 h28 =>
      L_X7_carry_33 E
        (fun h7 =>
          L_X7_carry_3 E y0 y1 y2 g (y4 + (1 : Int32)) h7)
        y0 y2 y4 E.2.2.1 v23 v28 h28
def F_X7_carry (E : Ev) (a0 : Nat) (x1 : Int32) (x2 : Int64) (h : Hp) : Rs :=
  L_X7_carry_3 E a0 x1 x2 E.2.2.1 (0 : Int32) h
def L_X7_go_5 (E : Ev) (K37 : Hp → Rs) (y0 : Nat) : Nat → Int32 → Hp → Rs
  | 0, _, _ => none
  | g + 1, y1, h =>
    (gfI h y0 7 9).bind fun v7 =>
    if v7 ≤ y1 then
      K37 h
    else
      (gfR h y0 7 0).bind fun v15 =>
      (gfR h y0 7 7).bind fun v19 =>
      (gaI E 0 h v19 y1).bind fun v23 =>
      (isO h v15 10).bind fun _ => cI (F_X10_look E v15 v23 h) fun v24 h24 =>
      (isO h24 y0 7).bind fun _ => cV (F_X7_carry E y0 v24 (1 : Int64) h24) fun h28 =>
      L_X7_go_5 E K37 y0 g (y1 + (1 : Int32)) h28
def L_X7_go_44 (E : Ev) (K88 : Hp → Rs) (y0 : Nat) : Nat → Int32 → Hp → Rs
  | 0, _, _ => none
  | g + 1, y1, h =>
    (gfI h y0 7 1).bind fun v46 =>
    if v46 ≤ y1 then
      K88 h
    else
      (gfR h y0 7 0).bind fun v54 =>
      (gfR h y0 7 2).bind fun v59 =>
      (gaI E 0 h v59 y1).bind fun v63 =>
      (isO h v54 10).bind fun _ => cI (F_X10_look E v54 ((2 : Int32) * v63) h) fun v65 h65 =>
      (gfR h65 y0 7 3).bind fun v69 =>
      (gfR h65 y0 7 2).bind fun v73 =>
      (gaI E 0 h65 v73 y1).bind fun v77 =>
      (gaL E h65 v69 v77).bind fun v78 =>
      (isO h65 y0 7).bind fun _ => cV (F_X7_carry E y0 v65 v78 h65) fun h79 =>
      L_X7_go_44 E K88 y0 g (y1 + (1 : Int32)) h79
def F_X7_go (E : Ev) (a0 : Nat) (h : Hp) : Rs :=
  (gfI h a0 7 8).bind fun v1 =>
  L_X7_go_5 E
    (fun h2 =>
      (pf h2 a0 7 9 (.int (0 : Int32))).bind fun h39 =>
      L_X7_go_44 E
        (fun h4 =>
          (isO h4 a0 7).bind fun _ => cV (F_X7_clearNow E a0 h4) fun h89 =>
          (gfR h89 a0 7 2).bind fun v93 =>
          (gfR h89 a0 7 3).bind fun v98 =>
          (gfR h89 a0 7 5).bind fun v104 =>
          (pf h89 a0 7 2 (.ref v104)).bind fun h107 =>
          (gfR h107 a0 7 6).bind fun v112 =>
          (pf h107 a0 7 3 (.ref v112)).bind fun h115 =>
          (gfI h115 a0 7 4).bind fun v120 =>
          (pf h115 a0 7 1 (.int v120)).bind fun h123 =>
          (pf h123 a0 7 5 (.ref v93)).bind fun h128 =>
          (pf h128 a0 7 6 (.ref v98)).bind fun h133 =>
          (pf h133 a0 7 4 (.int (0 : Int32))).bind fun h138 =>
          (gfI h138 a0 7 1).bind fun v142 =>
          if v142 ≤ 0 then
            rtZ (0 : Int32) h138
          else
            rtZ (1 : Int32) h138)
        a0 E.2.2.1 (0 : Int32) h39)
    a0 E.2.2.1 v1 h
def L_X9_goFar_69 (E : Ev) (K126 : Hp → Rs) (y0 : Nat) (y4 : Nat) (y7 : Int64) : Nat → Int32 → Hp → Rs
  | 0, _, _ => none
  | g + 1, y10, h =>
    (gfR h y0 9 3).bind fun v72 =>
    (gfI h v72 7 1).bind fun v75 =>
    if v75 ≤ y10 then
      K126 h
    else
      (gfR h y0 9 3).bind fun v82 =>
      (gfR h v82 7 2).bind fun v85 =>
      (gaI E 0 h v85 y10).bind fun v90 =>
      (gfR h y0 9 3).bind fun v94 =>
      (gfR h v94 7 3).bind fun v97 =>
      (gaL E h v97 v90).bind fun v102 =>
      if (v102 &&& y7) = (0 : Int64) then
        L_X9_goFar_69 E K126 y0 y4 y7 g (y10 + (1 : Int32)) h
      else
        (isO h y4 6).bind fun _ => cV (F_X6_add E y4 ((2 : Int32) * v90) h) fun h117 =>
        L_X9_goFar_69 E K126 y0 y4 y7 g (y10 + (1 : Int32)) h117
def L_X9_goFar_39 (E : Ev)  (y0 : Nat) (y4 : Nat) (y7 : Int64) : Nat → Int32 → Hp → Rs
  | 0, _, _ => none
  | g + 1, y9, h =>
    (gfR h y0 9 1).bind fun v42 =>
    (gfR h v42 2 7).bind fun v45 =>
    (gfI h y0 9 6).bind fun v49 =>
    (gaI E 0 h v45 v49).bind fun v52 =>
    if v52 ≤ y9 then
      rtV h
    else
      (gfR h y0 9 3).bind fun v57 =>
      (isO h v57 7).bind fun _ => cI (F_X7_go E v57 h) fun v60 h60 =>
      if v60 = 0 then
        rtV h60
      else
        L_X9_goFar_69 E
          (fun h3 =>
            L_X9_goFar_39 E y0 y4 y7 g (y9 + (1 : Int32)) h3)
          y0 y4 y7 E.2.2.1 (0 : Int32) h60
def F_X9_goFar (E : Ev) (a0 : Nat) (x1 : Int32) (a2 : Nat) (x3 : Int32) (a4 : Nat) (h : Hp) : Rs :=
  lt (((1 : Int64) <<< (((((2 : Int32) * x1) + (1 : Int32))).toInt64 &&& 63)) - (1 : Int64)) fun u1 =>
  (dvI (x1 + (1 : Int32)) (2 : Int32)).bind fun v18 =>
  lt (u1 &&& (-((1 : Int64) <<< ((v18).toInt64 &&& 63)))) fun u2 =>
  (gfR h a0 9 3).bind fun v25 =>
  (isO h v25 7).bind fun _ => cV (F_X7_begin E v25 a2 (0 : Int32) x3 u1 h) fun h33 =>
  L_X9_goFar_39 E a0 a4 u2 E.2.2.1 (0 : Int32) h33
def L_X9_goTimes_31 (E : Ev) (K53 : Hp → Rs) (y0 : Nat) (y1 : Int32) : Nat → Int32 → Hp → Rs
  | 0, _, _ => none
  | g + 1, y5, h =>
    if y1 ≤ y5 then
      K53 h
    else
      (gfR h y0 9 3).bind fun v38 =>
      (isO h v38 7).bind fun _ => cI (F_X7_go E v38 h) fun v41 h41 =>
      if v41 = 0 then
        K53 h41
      else
        L_X9_goTimes_31 E K53 y0 y1 g (y5 + (1 : Int32)) h41
def L_X9_goTimes_56 (E : Ev)  (y0 : Nat) (y4 : Nat) : Nat → Int32 → Hp → Rs
  | 0, _, _ => none
  | g + 1, y6, h =>
    (gfR h y0 9 3).bind fun v59 =>
    (gfI h v59 7 1).bind fun v62 =>
    if v62 ≤ y6 then
      rtV h
    else
      (gfR h y0 9 3).bind fun v72 =>
      (gfR h v72 7 2).bind fun v75 =>
      (gaI E 0 h v75 y6).bind fun v80 =>
      (isO h y4 6).bind fun _ => cV (F_X6_add E y4 ((2 : Int32) * v80) h) fun h82 =>
      L_X9_goTimes_56 E y0 y4 g (y6 + (1 : Int32)) h82
def F_X9_goTimes (E : Ev) (a0 : Nat) (x1 : Int32) (a2 : Nat) (x3 : Int32) (a4 : Nat) (h : Hp) : Rs :=
  (gfR h a0 9 1).bind fun v2 =>
  (gfR h v2 2 7).bind fun v5 =>
  (gfI h a0 9 6).bind fun v9 =>
  (gaI E 0 h v5 v9).bind fun v12 =>
  if x1 ≤ v12 then
    (gfR h a0 9 3).bind fun v18 =>
    (isO h v18 7).bind fun _ => cV (F_X7_begin E v18 a2 (0 : Int32) x3 (0 : Int64) h) fun h25 =>
    L_X9_goTimes_31 E
      (fun h2 =>
        L_X9_goTimes_56 E a0 a4 E.2.2.1 (0 : Int32) h2)
      a0 x1 E.2.2.1 (0 : Int32) h25
  else
    rtV h
def F_X6_addArrows (E : Ev) (a0 : Nat) (x1 : Int64) (x3 : Int64) (h : Hp) : Rs :=
  (gfR h a0 6 0).bind fun v1 =>
  (gaL E h v1 (0 : Int32)).bind fun v6 =>
  (paL E h v1 (0 : Int32) (v6 ||| x1)).bind fun h9 =>
  (gfR h9 a0 6 0).bind fun v11 =>
  (gaL E h9 v11 (1 : Int32)).bind fun v16 =>
  (paL E h9 v11 (1 : Int32) (v16 ||| x3)).bind fun h19 =>
  rtV h19
def L_X9_goUntil_52 (E : Ev) (K178 : Hp → Rs) (y0 : Nat) (y1 : Int64) (y5 : Int32) (y6 : Nat) : Nat → Int32 → Hp → Rs
  | 0, _, _ => none
  | g + 1, y8, h =>
    (gfR h y0 9 3).bind fun v55 =>
    (gfI h v55 7 1).bind fun v58 =>
    if v58 ≤ y8 then
      K178 h
    else
      (gfR h y0 9 3).bind fun v65 =>
      (gfR h v65 7 2).bind fun v68 =>
      (gaI E 0 h v68 y8).bind fun v73 =>
      (gfR h y0 9 0).bind fun v78 =>
      (gfR h v78 10 0).bind fun v81 =>
      (gfR h v81 3 8).bind fun v84 =>
      (gaI E 0 h v84 ((2 : Int32) * v73)).bind fun v91 =>
      cI (F_X11_isIn E y1 v91 h) fun v92 h92 =>
      if ¬ v92 = 0 then
        (gfR h92 y0 9 3).bind fun v102 =>
        (gfR h92 v102 7 3).bind fun v105 =>
        (paL E h92 v105 v73 (0 : Int64)).bind fun h111 =>
        if y5 = 0 then
          (isO h111 y6 6).bind fun _ => cV (F_X6_add E y6 ((2 : Int32) * v73) h111) fun h169 =>
          L_X9_goUntil_52 E K178 y0 y1 y5 y6 g (y8 + (1 : Int32)) h169
        else
          (gfR h111 y0 9 0).bind fun v118 =>
          (isO h111 v118 10).bind fun _ => cI (F_X10_look E v118 ((2 : Int32) * v73) h111) fun v125 h125 =>
          (gfR h125 y0 9 0).bind fun v136 =>
          (gfR h125 v136 10 11).bind fun v139 =>
          (gaL E h125 v139 (v125 + (6 : Int32))).bind fun v144 =>
          (gfR h125 y0 9 0).bind fun v146 =>
          (gfR h125 v146 10 11).bind fun v149 =>
          (gaL E h125 v149 ((v125 + (6 : Int32)) + (1 : Int32))).bind fun v156 =>
          (isO h125 y6 6).bind fun _ => cV (F_X6_addArrows E y6 v144 v156 h125) fun h157 =>
          L_X9_goUntil_52 E K178 y0 y1 y5 y6 g (y8 + (1 : Int32)) h157
      else
        L_X9_goUntil_52 E K178 y0 y1 y5 y6 g (y8 + (1 : Int32)) h92
def L_X9_goUntil_22 (E : Ev)  (y0 : Nat) (y1 : Int64) (y5 : Int32) (y6 : Nat) : Nat → Int32 → Hp → Rs
  | 0, _, _ => none
  | g + 1, y7, h =>
    (gfR h y0 9 1).bind fun v25 =>
    (gfR h v25 2 7).bind fun v28 =>
    (gfI h y0 9 6).bind fun v32 =>
    (gaI E 0 h v28 v32).bind fun v35 =>
    if v35 ≤ y7 then
      rtV h
    else
      (gfR h y0 9 3).bind fun v40 =>
      (isO h v40 7).bind fun _ => cI (F_X7_go E v40 h) fun v43 h43 =>
      if v43 = 0 then
        rtV h43
      else
        L_X9_goUntil_52 E
          (fun h4 =>
            L_X9_goUntil_22 E y0 y1 y5 y6 g (y7 + (1 : Int32)) h4)
          y0 y1 y5 y6 E.2.2.1 (0 : Int32) h43
def F_X9_goUntil (E : Ev) (a0 : Nat) (x1 : Int64) (a3 : Nat) (x4 : Int32) (x5 : Int32) (a6 : Nat) (h : Hp) : Rs :=
  if ¬ x1 = (0 : Int64) then
    (gfR h a0 9 3).bind fun v8 =>
    (isO h v8 7).bind fun _ => cV (F_X7_begin E v8 a3 (0 : Int32) x4 (0 : Int64) h) fun h16 =>
    L_X9_goUntil_22 E a0 x1 x5 a6 E.2.2.1 (0 : Int32) h16
  else
    rtV h
def F_X9_placesWith (E : Ev) (a0 : Nat) (x1 : Int32) (h : Hp) : Rs :=
  (gfR h a0 9 5).bind fun v1 =>
  (gfI h a0 9 6).bind fun v5 =>
  (gaL E h v1 ((v5 * (12 : Int32)) + x1)).bind fun v13 =>
  rtL v13 h
def L_X10_placesWith_5 (E : Ev)  (y0 : Nat) (y1 : Int32) : Nat → Int64 → Int32 → Hp → Rs
  | 0, _, _, _ => none
  | g + 1, y2, y4, h =>
    if (12 : Int32) ≤ y4 then
      rtL y2 h
    else
      cI (F_X11_isIn E ((y1).toInt64) y4 h) fun v16 h16 =>
      if v16 = 0 then
        L_X10_placesWith_5 E y0 y1 g y2 (y4 + (1 : Int32)) h16
      else
        (gfR h16 y0 10 8).bind fun v24 =>
        (gaL E h16 v24 y4).bind fun v29 =>
        L_X10_placesWith_5 E y0 y1 g (y2 ||| v29) (y4 + (1 : Int32)) h16
def F_X10_placesWith (E : Ev) (a0 : Nat) (x1 : Int32) (h : Hp) : Rs :=
  L_X10_placesWith_5 E a0 x1 E.2.2.1 (0 : Int64) (0 : Int32) h
def L_X10_seenPlaces_5 (E : Ev) (K38 : Int64 → Hp → Rs) (y0 : Nat) (y1 : Int32) : Nat → Int64 → Int32 → Hp → Rs
  | 0, _, _, _ => none
  | g + 1, y2, y4, h =>
    if (12 : Int32) ≤ y4 then
      K38 y2 h
    else
      cI (F_X11_isIn E ((y1).toInt64) y4 h) fun v16 h16 =>
      if v16 = 0 then
        L_X10_seenPlaces_5 E K38 y0 y1 g y2 (y4 + (1 : Int32)) h16
      else
        (gfR h16 y0 10 9).bind fun v24 =>
        (gaL E h16 v24 y4).bind fun v29 =>
        L_X10_seenPlaces_5 E K38 y0 y1 g (y2 ||| v29) (y4 + (1 : Int32)) h16
def L_X10_seenPlaces_48 (E : Ev)  (y0 : Nat) (y2 : Int64) : Nat → Int64 → Int32 → Hp → Rs
  | 0, _, _, _ => none
  | g + 1, y4, y6, h =>
    (gfR h y0 10 0).bind fun v51 =>
    (gfI h v51 3 0).bind fun v54 =>
    if v54 ≤ y6 then
      rtL y4 h
    else
      (gfR h y0 10 7).bind fun v61 =>
      (gaL E h v61 y6).bind fun v66 =>
      if (v66 &&& y2) = (0 : Int64) then
        L_X10_seenPlaces_48 E y0 y2 g y4 (y6 + (1 : Int32)) h
      else
        lt (y4 ||| ((1 : Int64) <<< ((y6).toInt64 &&& 63))) fun u1 =>
        L_X10_seenPlaces_48 E y0 y2 g u1 (y6 + (1 : Int32)) h
def F_X10_seenPlaces (E : Ev) (a0 : Nat) (x1 : Int32) (h : Hp) : Rs :=
  L_X10_seenPlaces_5 E
    (fun w1 h3 =>
      (isO h3 a0 10).bind fun _ => cL (F_X10_placesWith E a0 x1 h3) fun v40 h40 =>
      L_X10_seenPlaces_48 E a0 w1 E.2.2.1 v40 (0 : Int32) h40)
    a0 x1 E.2.2.1 (0 : Int64) (0 : Int32) h
def F_X9_seenPlaces (E : Ev) (a0 : Nat) (x1 : Int32) (h : Hp) : Rs :=
  (gfR h a0 9 0).bind fun v1 =>
  (gfR h a0 9 4).bind fun v5 =>
  (gfI h a0 9 6).bind fun v9 =>
  (gaI E 0 h v5 ((v9 * (12 : Int32)) + x1)).bind fun v17 =>
  (isO h v1 10).bind fun _ => cL (F_X10_seenPlaces E v1 v17 h) fun v18 h18 =>
  rtL v18 h18
def J_X9_sideOf_10 (E : Ev)  (y0 : Nat) (t0 : Int32) (h : Hp) : Rs :=
  (gfR h y0 9 1).bind fun v11 =>
  (gfR h v11 2 5).bind fun v14 =>
  (gfI h y0 9 6).bind fun v18 =>
  (gaI E 2 h v14 v18).bind fun v21 =>
  if ¬ t0 = v21 then
    rtI (0 : Int32) h
  else
    rtI (1 : Int32) h
def F_X9_sideOf (E : Ev) (a0 : Nat) (x1 : Int32) (x2 : Int32) (h : Hp) : Rs :=
  if ¬ x1 = x2 then
    J_X9_sideOf_10 E a0 (0 : Int32) h
  else
    J_X9_sideOf_10 E a0 (1 : Int32) h
def L_X9_stayAheadOf_55 (E : Ev) (K105 : Int32 → Hp → Rs) (y0 : Nat) (y1 : Int64) : Nat → Int32 → Int32 → Hp → Rs
  | 0, _, _, _ => none
  | g + 1, y7, y9, h =>
    (gfR h y0 9 3).bind fun v58 =>
    (gfI h v58 7 1).bind fun v61 =>
    if v61 ≤ y9 then
      K105 y7 h
    else
      (gfR h y0 9 0).bind fun v71 =>
      (gfR h v71 10 0).bind fun v74 =>
      (gfR h v74 3 8).bind fun v77 =>
      (gfR h y0 9 3).bind fun v82 =>
      (gfR h v82 7 2).bind fun v85 =>
      (gaI E 0 h v85 y9).bind fun v90 =>
      (gaI E 0 h v77 ((2 : Int32) * v90)).bind fun v92 =>
      cI (F_X11_isIn E y1 v92 h) fun v93 h93 =>
      L_X9_stayAheadOf_55 E K105 y0 y1 g (y7 ||| v93) (y9 + (1 : Int32)) h93
def L_X9_stayAheadOf_31 (E : Ev) (K111 : Int32 → Hp → Rs) (y0 : Nat) (y1 : Int64) : Nat → Int32 → Int32 → Hp → Rs
  | 0, _, _, _ => none
  | g + 1, y7, y8, h =>
    if (3 : Int32) ≤ y8 then
      K111 y7 h
    else
      if ¬ y7 = 0 then
        K111 y7 h
      else
        (gfR h y0 9 3).bind fun v43 =>
        (isO h v43 7).bind fun _ => cI (F_X7_go E v43 h) fun v46 h46 =>
        if v46 = 0 then
          K111 y7 h46
        else
          L_X9_stayAheadOf_55 E
            (fun w1 h3 =>
              L_X9_stayAheadOf_31 E K111 y0 y1 g w1 (y8 + (1 : Int32)) h3)
            y0 y1 E.2.2.1 y7 (0 : Int32) h46
def J_X9_stayAheadOf_111 (E : Ev) (K3 : Int32 → Hp → Rs) (y0 : Nat) (y1 : Int64) (y3 : Nat) (y4 : Int32) (y5 : Nat) (y6 : Int32) (y7 : Int32) (h : Hp) : Rs :=
  if y7 = 0 then
    K3 (y6 + (1 : Int32)) h
  else
    (gaI E 0 h y3 y6).bind fun v121 =>
    (isO h y5 6).bind fun _ => cV (F_X6_add E y5 v121 h) fun h122 =>
    K3 (y6 + (1 : Int32)) h122
def L_X9_stayAheadOf_3 (E : Ev)  (y0 : Nat) (y1 : Int64) (y3 : Nat) (y4 : Int32) (y5 : Nat) : Nat → Int32 → Hp → Rs
  | 0, _, _ => none
  | g + 1, y6, h =>
    if y4 ≤ y6 then
      rtV h
    else
      (gfR h y0 9 3).bind fun v14 =>
      (isO h v14 7).bind fun _ => cV (F_X7_begin E v14 y3 y6 (y6 + (1 : Int32)) (0 : Int64) h) fun h25 =>
      L_X9_stayAheadOf_31 E
        (fun w1 h4 =>
          J_X9_stayAheadOf_111 E
            (fun w5 h9 =>
              L_X9_stayAheadOf_3 E y0 y1 y3 y4 y5 g w5 h9)
            y0 y1 y3 y4 y5 y6 w1 h4)
        y0 y1 E.2.2.1 (0 : Int32) (0 : Int32) h25
def F_X9_stayAheadOf (E : Ev) (a0 : Nat) (x1 : Int64) (a3 : Nat) (x4 : Int32) (a5 : Nat) (h : Hp) : Rs :=
  L_X9_stayAheadOf_3 E a0 x1 a3 x4 a5 E.2.2.1 (0 : Int32) h
def L_X9_staySeeing_3 (E : Ev)  (y0 : Nat) (y1 : Int64) (y3 : Nat) (y4 : Int32) (y5 : Nat) : Nat → Int32 → Hp → Rs
  | 0, _, _ => none
  | g + 1, y6, h =>
    if y4 ≤ y6 then
      rtV h
    else
      (gfR h y0 9 0).bind fun v12 =>
      (gfR h v12 10 0).bind fun v15 =>
      (gfR h v15 3 8).bind fun v18 =>
      (gaI E 0 h y3 y6).bind fun v24 =>
      (gaI E 0 h v18 v24).bind fun v25 =>
      cI (F_X11_isIn E y1 v25 h) fun v26 h26 =>
      if v26 = 0 then
        L_X9_staySeeing_3 E y0 y1 y3 y4 y5 g (y6 + (1 : Int32)) h26
      else
        (gaI E 0 h26 y3 y6).bind fun v37 =>
        (isO h26 y5 6).bind fun _ => cV (F_X6_add E y5 v37 h26) fun h38 =>
        L_X9_staySeeing_3 E y0 y1 y3 y4 y5 g (y6 + (1 : Int32)) h38
def F_X9_staySeeing (E : Ev) (a0 : Nat) (x1 : Int64) (a3 : Nat) (x4 : Int32) (a5 : Nat) (h : Hp) : Rs :=
  L_X9_staySeeing_3 E a0 x1 a3 x4 a5 E.2.2.1 (0 : Int32) h
def L_X9_turn_3 (E : Ev)  (y0 : Nat) (y1 : Int32) (y2 : Nat) (y3 : Int32) (y4 : Nat) : Nat → Int32 → Hp → Rs
  | 0, _, _ => none
  | g + 1, y5, h =>
    if y3 ≤ y5 then
      rtV h
    else
      (gfR h y0 9 0).bind fun v10 =>
      (gaI E 0 h y2 y5).bind fun v16 =>
      (isO h v10 10).bind fun _ => cI (F_X10_look E v10 v16 h) fun v17 h17 =>
      lt (v17 + ((2 : Int32) * y1)) fun u1 =>
      (gfR h17 y0 9 0).bind fun v29 =>
      (gfR h17 v29 10 11).bind fun v32 =>
      (gaL E h17 v32 u1).bind fun v37 =>
      (gfR h17 y0 9 0).bind fun v39 =>
      (gfR h17 v39 10 11).bind fun v42 =>
      (gaL E h17 v42 (u1 + (1 : Int32))).bind fun v49 =>
      (isO h17 y4 6).bind fun _ => cV (F_X6_addArrows E y4 v37 v49 h17) fun h50 =>
      L_X9_turn_3 E y0 y1 y2 y3 y4 g (y5 + (1 : Int32)) h50
def F_X9_turn (E : Ev) (a0 : Nat) (x1 : Int32) (a2 : Nat) (x3 : Int32) (a4 : Nat) (h : Hp) : Rs :=
  L_X9_turn_3 E a0 x1 a2 x3 a4 E.2.2.1 (0 : Int32) h
def J_X9_turnAt_239 (E : Ev) (K99 : Int32 → Hp → Rs) (y0 : Nat) (y1 : Int32) (y2 : Int32) (y3 : Int64) (y5 : Nat) (y7 : Int64) (y9 : Int64) (y12 : Int32) (y13 : Int32) (y19 : Int64) (h : Hp) : Rs :=
  (gfR h y0 9 3).bind fun v240 =>
  (gfR h v240 7 3).bind fun v243 =>
  (paL E h v243 y13 (y19 &&& (((1 : Int64) <<< ((y1).toInt64 &&& 63)) ^^^ (-1 : Int64)))).bind fun h258 =>
  K99 (y12 + (1 : Int32)) h258
def L_X9_turnAt_99 (E : Ev) (K265 : Hp → Rs) (y0 : Nat) (y1 : Int32) (y2 : Int32) (y3 : Int64) (y5 : Nat) (y7 : Int64) (y9 : Int64) : Nat → Int32 → Hp → Rs
  | 0, _, _ => none
  | g + 1, y12, h =>
    (gfR h y0 9 3).bind fun v102 =>
    (gfI h v102 7 1).bind fun v105 =>
    if v105 ≤ y12 then
      K265 h
    else
      (gfR h y0 9 3).bind fun v112 =>
      (gfR h v112 7 2).bind fun v115 =>
      (gaI E 0 h v115 y12).bind fun v120 =>
      (gfR h y0 9 0).bind fun v124 =>
      (isO h v124 10).bind fun _ => cI (F_X10_look E v124 ((2 : Int32) * v120) h) fun v131 h131 =>
      lt (v131 + ((2 : Int32) * y2)) fun u1 =>
      (gfR h131 y0 9 0).bind fun v141 =>
      (gfR h131 v141 10 11).bind fun v144 =>
      (gaL E h131 v144 u1).bind fun v149 =>
      (gfR h131 y0 9 0).bind fun v156 =>
      (gfR h131 v156 10 11).bind fun v159 =>
      (gaL E h131 v159 (u1 + (1 : Int32))).bind fun v166 =>
      if ((v149 &&& y7) ||| (v166 &&& y9)) = (0 : Int64) then
        L_X9_turnAt_99 E K265 y0 y1 y2 y3 y5 y7 y9 g (y12 + (1 : Int32)) h131
      else
        (gfR h131 y0 9 0).bind fun v184 =>
        (gfR h131 v184 10 0).bind fun v187 =>
        (gfR h131 v187 3 8).bind fun v190 =>
        (gaI E 0 h131 v190 ((2 : Int32) * v120)).bind fun v197 =>
        cI (F_X11_isIn E y3 v197 h131) fun v198 h198 =>
        if v198 = 0 then
          (gfR h198 y0 9 3).bind fun v208 =>
          (gfR h198 v208 7 3).bind fun v211 =>
          (gaL E h198 v211 v120).bind fun v216 =>
          lt (v216 <<< (((1 : Int32)).toInt64 &&& 63)) fun u2 =>
          cI (F_X11_isIn E u2 y1 h198) fun v224 h224 =>
          if v224 = 0 then
            J_X9_turnAt_239 E
              (fun w3 h12 =>
                L_X9_turnAt_99 E K265 y0 y1 y2 y3 y5 y7 y9 g w3 h12)
              y0 y1 y2 y3 y5 y7 y9 y12 v120 u2 h224
          else
            (isO h224 y5 6).bind fun _ => cV (F_X6_addArrows E y5 (v149 &&& y7) (v166 &&& y9) h224) fun h236 =>
            J_X9_turnAt_239 E
              (fun w13 h22 =>
                L_X9_turnAt_99 E K265 y0 y1 y2 y3 y5 y7 y9 g w13 h22)
              y0 y1 y2 y3 y5 y7 y9 y12 v120 u2 h236
        else
          L_X9_turnAt_99 E K265 y0 y1 y2 y3 y5 y7 y9 g (y12 + (1 : Int32)) h198
def L_X9_turnAt_69 (E : Ev)  (y0 : Nat) (y1 : Int32) (y2 : Int32) (y3 : Int64) (y5 : Nat) (y7 : Int64) (y9 : Int64) : Nat → Int32 → Hp → Rs
  | 0, _, _ => none
  | g + 1, y11, h =>
    (gfR h y0 9 1).bind fun v72 =>
    (gfR h v72 2 7).bind fun v75 =>
    (gfI h y0 9 6).bind fun v79 =>
    (gaI E 0 h v75 v79).bind fun v82 =>
    if v82 ≤ y11 then
      rtV h
    else
      (gfR h y0 9 3).bind fun v87 =>
      (isO h v87 7).bind fun _ => cI (F_X7_go E v87 h) fun v90 h90 =>
      if v90 = 0 then
        rtV h90
      else
        L_X9_turnAt_99 E
          (fun h10 =>
            L_X9_turnAt_69 E y0 y1 y2 y3 y5 y7 y9 g (y11 + (1 : Int32)) h10)
          y0 y1 y2 y3 y5 y7 y9 E.2.2.1 (0 : Int32) h90
def J_X9_turnAt_38 (E : Ev)  (y0 : Nat) (y1 : Int32) (y2 : Int32) (y3 : Int64) (y5 : Nat) (y6 : Int32) (t0 : Int64) (h : Hp) : Rs :=
  if y6 = 0 then
    (gfR h y0 9 0).bind fun v52 =>
    (gfR h v52 10 5).bind fun v55 =>
    (gaL E h v55 (1 : Int32)).bind fun v59 =>
    L_X9_turnAt_69 E y0 y1 y2 y3 y5 t0 (v59 ^^^ (-1 : Int64)) E.2.2.1 (0 : Int32) h
  else
    L_X9_turnAt_69 E y0 y1 y2 y3 y5 t0 (-1 : Int64) E.2.2.1 (0 : Int32) h
def F_X9_turnAt (E : Ev) (a0 : Nat) (x1 : Int32) (x2 : Int32) (x3 : Int64) (a5 : Nat) (h : Hp) : Rs :=
  (gfR h a0 9 1).bind fun v1 =>
  (gfR h v1 2 6).bind fun v4 =>
  (gfI h a0 9 6).bind fun v8 =>
  (gaI E 2 h v4 v8).bind fun v11 =>
  if v11 = 0 then
    (gfR h a0 9 0).bind fun v26 =>
    (gfR h v26 10 5).bind fun v29 =>
    (gaL E h v29 (0 : Int32)).bind fun v33 =>
    J_X9_turnAt_38 E a0 x1 x2 x3 a5 v11 (v33 ^^^ (-1 : Int64)) h
  else
    J_X9_turnAt_38 E a0 x1 x2 x3 a5 v11 (-1 : Int64) h
def F_X9_lead (E : Ev) (a0 : Nat) (x1 : Int32) (a2 : Nat) (x3 : Int32) (a4 : Nat) (h : Hp) : Rs :=
  lt ((x1 >>> ((4 : Int32) &&& 31)) &&& (31 : Int32)) fun u1 =>
  lt (x1 >>> ((9 : Int32) &&& 31)) fun u2 =>
  if (x1 &&& (15 : Int32)) = (1 : Int32) then
    (isO h a0 9).bind fun _ => cV (F_X9_goTimes E a0 u1 a2 x3 a4 h) fun h87 =>
    rtV h87
  else
  if (x1 &&& (15 : Int32)) = (2 : Int32) then
    (isO h a0 9).bind fun _ => cL (F_X9_placesWith E a0 u2 h) fun v97 h97 =>
    (isO h97 a0 9).bind fun _ => cV (F_X9_goUntil E a0 v97 a2 x3 (0 : Int32) a4 h97) fun h105 =>
    rtV h105
  else
  if (x1 &&& (15 : Int32)) = (3 : Int32) then
    (isO h a0 9).bind fun _ => cL (F_X9_placesWith E a0 u2 h) fun v115 h115 =>
    (isO h115 a0 9).bind fun _ => cV (F_X9_goUntil E a0 v115 a2 x3 (1 : Int32) a4 h115) fun h123 =>
    rtV h123
  else
  if (x1 &&& (15 : Int32)) = (4 : Int32) then
    (isO h a0 9).bind fun _ => cV (F_X9_goFar E a0 u1 a2 x3 a4 h) fun h136 =>
    rtV h136
  else
  if (x1 &&& (15 : Int32)) = (5 : Int32) then
    (isO h a0 9).bind fun _ => cL (F_X9_seenPlaces E a0 u2 h) fun v146 h146 =>
    (isO h146 a0 9).bind fun _ => cV (F_X9_staySeeing E a0 v146 a2 x3 a4 h146) fun h153 =>
    rtV h153
  else
  if (x1 &&& (15 : Int32)) = (6 : Int32) then
    (isO h a0 9).bind fun _ => cL (F_X9_placesWith E a0 u2 h) fun v163 h163 =>
    (isO h163 a0 9).bind fun _ => cV (F_X9_stayAheadOf E a0 v163 a2 x3 a4 h163) fun h170 =>
    rtV h170
  else
  if (x1 &&& (15 : Int32)) = (7 : Int32) then
    (isO h a0 9).bind fun _ => cV (F_X9_staySeeing E a0 (-1 : Int64) a2 x3 a4 h) fun h184 =>
    rtV h184
  else
  if (x1 &&& (15 : Int32)) = (8 : Int32) then
    (isO h a0 9).bind fun _ => cV (F_X9_goBack E a0 a2 x3 a4 h) fun h195 =>
    rtV h195
  else
  if (x1 &&& (15 : Int32)) = (9 : Int32) then
    (isO h a0 9).bind fun _ => cI (F_X9_sideOf E a0 (x1 &&& (15 : Int32)) (9 : Int32) h) fun v209 h209 =>
    (isO h209 a0 9).bind fun _ => cV (F_X9_turn E a0 v209 a2 x3 a4 h209) fun h216 =>
    rtV h216
  else
  if (x1 &&& (15 : Int32)) = (10 : Int32) then
    (isO h a0 9).bind fun _ => cI (F_X9_sideOf E a0 (x1 &&& (15 : Int32)) (9 : Int32) h) fun v209 h209 =>
    (isO h209 a0 9).bind fun _ => cV (F_X9_turn E a0 v209 a2 x3 a4 h209) fun h216 =>
    rtV h216
  else
  if (x1 &&& (15 : Int32)) = (11 : Int32) then
    (gfR h a0 9 3).bind fun v223 =>
    (isO h v223 7).bind fun _ => cV (F_X7_begin E v223 a2 (0 : Int32) x3 (0 : Int64) h) fun h230 =>
    (isO h230 a0 9).bind fun _ => cI (F_X9_sideOf E a0 (x1 &&& (15 : Int32)) (11 : Int32) h230) fun v243 h243 =>
    if ¬ u2 = (15 : Int32) then
      (isO h243 a0 9).bind fun _ => cL (F_X9_placesWith E a0 u2 h243) fun v260 h260 =>
      (isO h260 a0 9).bind fun _ => cV (F_X9_turnAt E a0 u1 v243 v260 a4 h260) fun h265 =>
      rtV h265
    else
      (isO h243 a0 9).bind fun _ => cV (F_X9_turnAt E a0 u1 v243 (0 : Int64) a4 h243) fun h265 =>
      rtV h265
  else
  if (x1 &&& (15 : Int32)) = (12 : Int32) then
    (gfR h a0 9 3).bind fun v223 =>
    (isO h v223 7).bind fun _ => cV (F_X7_begin E v223 a2 (0 : Int32) x3 (0 : Int64) h) fun h230 =>
    (isO h230 a0 9).bind fun _ => cI (F_X9_sideOf E a0 (x1 &&& (15 : Int32)) (11 : Int32) h230) fun v243 h243 =>
    if ¬ u2 = (15 : Int32) then
      (isO h243 a0 9).bind fun _ => cL (F_X9_placesWith E a0 u2 h243) fun v260 h260 =>
      (isO h260 a0 9).bind fun _ => cV (F_X9_turnAt E a0 u1 v243 v260 a4 h260) fun h265 =>
      rtV h265
    else
      (isO h243 a0 9).bind fun _ => cV (F_X9_turnAt E a0 u1 v243 (0 : Int64) a4 h243) fun h265 =>
      rtV h265
  else
  rtV h
def L_X1_allGoOn_2 (E : Ev)  (y0 : Nat) (y1 : Int32) (y2 : Int32) : Nat → Int32 → Hp → Rs
  | 0, _, _ => none
  | g + 1, y3, h =>
    if (8 : Int32) ≤ y3 then
      rtZ (1 : Int32) h
    else
      (gfI h y0 1 1).bind fun v9 =>
      cI (F_X11_isIn E ((v9).toInt64) y3 h) fun v14 h14 =>
      if v14 = 0 then
        L_X1_allGoOn_2 E y0 y1 y2 g (y3 + (1 : Int32)) h14
      else
        (gfR h14 y0 1 4).bind fun v21 =>
        (gaR E 8 h14 v21 (((y2 + (1 : Int32)) * (8 : Int32)) + y3)).join.bind fun v32 =>
        (isO h14 v32 6).bind fun _ => cV (F_X6_clear E v32 h14) fun h37 =>
        (gfR h37 y0 1 4).bind fun v41 =>
        (gaR E 8 h37 v41 ((y2 * (8 : Int32)) + y3)).join.bind fun v50 =>
        (gfR h37 y0 1 9).bind fun v52 =>
        (isO h37 v50 6).bind fun _ => cI (F_X6_list E v50 v52 h37) fun v55 h55 =>
        (gfR h55 y0 1 0).bind fun v61 =>
        (isO h55 v61 9).bind fun _ => cV (F_X9_become E v61 y3 h55) fun h65 =>
        (gfR h65 y0 1 0).bind fun v69 =>
        cI (F_X11_listedWord E y1 h65) fun v73 h73 =>
        (gfR h73 y0 1 9).bind fun v77 =>
        (isO h73 v69 9).bind fun _ => cV (F_X9_lead E v69 v73 v77 v55 v32 h73) fun h84 =>
        (isO h84 v32 6).bind fun _ => cI (F_X6_isEmpty E v32 h84) fun v89 h89 =>
        if v89 = 0 then
          L_X1_allGoOn_2 E y0 y1 y2 g (y3 + (1 : Int32)) h89
        else
          rtZ (0 : Int32) h89
def F_X1_allGoOn (E : Ev) (a0 : Nat) (x1 : Int32) (x2 : Int32) (h : Hp) : Rs :=
  L_X1_allGoOn_2 E a0 x1 x2 E.2.2.1 (0 : Int32) h
def F_J6_bitCount_0f7a4 (E : Ev) (x0 : Int32) (h : Hp) : Rs :=
  lt (x0 - (((x0).toUInt32 >>> (((1 : Int32)).toUInt32 &&& Int32.toUInt32 31)).toInt32 &&& (1431655765 : Int32))) fun u1 =>
  lt ((u1 &&& (858993459 : Int32)) + (((u1).toUInt32 >>> (((2 : Int32)).toUInt32 &&& Int32.toUInt32 31)).toInt32 &&& (858993459 : Int32))) fun u2 =>
  lt ((u2 + ((u2).toUInt32 >>> (((4 : Int32)).toUInt32 &&& Int32.toUInt32 31)).toInt32) &&& (252645135 : Int32)) fun u3 =>
  lt (u3 + ((u3).toUInt32 >>> (((8 : Int32)).toUInt32 &&& Int32.toUInt32 31)).toInt32) fun u4 =>
  lt (u4 + ((u4).toUInt32 >>> (((16 : Int32)).toUInt32 &&& Int32.toUInt32 31)).toInt32) fun u5 =>
  rtI (u5 &&& (63 : Int32)) h
def L_X10_placesOf_27 (E : Ev) (K70 : Int64 → Hp → Rs) (y0 : Nat) (y4 : Int32) : Nat → Int64 → Int64 → Int32 → Hp → Rs
  | 0, _, _, _, _ => none
  | g + 1, y2, y5, y7, h =>
    if y7 ≤ 0 then
      K70 y2 h
    else
      (gfR h y0 10 0).bind fun v35 =>
      (gfR h v35 3 8).bind fun v38 =>
      cI (F_X11_lowest E y5 h) fun v45 h45 =>
      cI (F_X6_stateOf E y4 v45 h45) fun v48 h48 =>
      (gaI E 0 h48 v38 v48).bind fun v51 =>
      lt (y2 ||| ((1 : Int64) <<< ((v51).toInt64 &&& 63))) fun u1 =>
      lt (y5 &&& (y5 - (1 : Int64))) fun u2 =>
      L_X10_placesOf_27 E K70 y0 y4 g u1 u2 (y7 + (-1 : Int32)) h48
def L_X10_placesOf_5 (E : Ev)  (y0 : Nat) (y1 : Nat) : Nat → Int64 → Int32 → Hp → Rs
  | 0, _, _, _ => none
  | g + 1, y2, y4, h =>
    if (4 : Int32) ≤ y4 then
      rtL y2 h
    else
      (gfR h y1 6 0).bind fun v12 =>
      (gaL E h v12 y4).bind fun v17 =>
      cI (F_J13_bitCount_95d88 E v17 h) fun v22 h22 =>
      L_X10_placesOf_27 E
        (fun w1 h4 =>
          L_X10_placesOf_5 E y0 y1 g w1 (y4 + (1 : Int32)) h4)
        y0 y4 E.2.2.1 y2 v17 v22 h22
def F_X10_placesOf (E : Ev) (a0 : Nat) (a1 : Nat) (h : Hp) : Rs :=
  L_X10_placesOf_5 E a0 a1 E.2.2.1 (0 : Int64) (0 : Int32) h
def F_X1_judge (E : Ev) (a0 : Nat) (x1 : Int32) (x2 : Int32) (h : Hp) : Rs :=
  (gfR h a0 1 0).bind fun v1 =>
  (gfR h v1 9 0).bind fun v4 =>
  (gfR h a0 1 8).bind fun v8 =>
  (isO h v4 10).bind fun _ => cL (F_X10_placesOf E v4 v8 h) fun v11 h11 =>
  (gfR h11 a0 1 5).bind fun v16 =>
  (gaI E 0 h11 v16 x1).bind fun v21 =>
  (paI E h11 v16 x1 (v21 ||| x2)).bind fun h24 =>
  (gfL h24 a0 1 2).bind fun v27 =>
  if ¬ v11 = v27 then
    if v11 = (0 : Int64) then
      rtV h24
    else
      (gfR h24 a0 1 7).bind fun v54 =>
      (gaI E 0 h24 v54 x1).bind fun v59 =>
      (paI E h24 v54 x1 (v59 ||| x2)).bind fun h62 =>
      rtV h62
  else
    (gfR h24 a0 1 6).bind fun v35 =>
    (gaI E 0 h24 v35 x1).bind fun v40 =>
    (paI E h24 v35 x1 (v40 ||| x2)).bind fun h43 =>
    rtV h43
def L_X1_arriving_98 (E : Ev) (K162 : Hp → Rs) (y0 : Nat) (y8 : Int32) : Nat → Int32 → Int32 → Hp → Rs
  | 0, _, _, _ => none
  | g + 1, y9, y10, h =>
    if y10 ≤ 0 then
      K162 h
    else
      (gfR h y0 1 8).bind fun v104 =>
      (isO h v104 6).bind fun _ => cV (F_X6_clear E v104 h) fun h107 =>
      (gfR h107 y0 1 0).bind fun v111 =>
      cI (F_X11_lowest E ((y9).toInt64) h107) fun v117 h117 =>
      cI (F_X11_listedWord E v117 h117) fun v120 h120 =>
      (gfR h120 y0 1 10).bind fun v124 =>
      (gfR h120 y0 1 8).bind fun v129 =>
      (isO h120 v111 9).bind fun _ => cV (F_X9_lead E v111 v120 v124 (1 : Int32) v129 h120) fun h132 =>
      (isO h132 y0 1).bind fun _ => cV (F_X1_judge E y0 y8 (y9 &&& (-y9)) h132) fun h144 =>
      lt (y9 &&& (y9 - (1 : Int32))) fun u1 =>
      L_X1_arriving_98 E K162 y0 y8 g u1 (y10 + (-1 : Int32)) h144
def L_X1_arriving_37 (E : Ev)  (y0 : Nat) (y2 : Int32) (y4 : Int32) : Nat → Int32 → Int32 → Int32 → Hp → Rs
  | 0, _, _, _, _ => none
  | g + 1, y5, y6, y7, h =>
    if y4 ≤ y7 then
      rtI (y5 &&& y6) h
    else
      if y5 = 0 then
        rtI (y5 &&& y6) h
      else
        (gfR h y0 1 9).bind fun v55 =>
        (gaI E 0 h v55 y7).bind fun v60 =>
        lt ((y2 * (240 : Int32)) + v60) fun u1 =>
        (gfR h y0 1 10).bind fun v65 =>
        (gfR h y0 1 9).bind fun v70 =>
        (gaI E 0 h v70 y7).bind fun v75 =>
        (paI E h v65 (0 : Int32) v75).bind fun h76 =>
        (gfR h76 y0 1 5).bind fun v80 =>
        (gaI E 0 h76 v80 u1).bind fun v85 =>
        lt (y5 &&& (v85 ^^^ (-1 : Int32))) fun u2 =>
        cI (F_J6_bitCount_0f7a4 E u2 h76) fun v93 h93 =>
        L_X1_arriving_98 E
          (fun h5 =>
            (gfR h5 y0 1 7).bind fun v165 =>
            (gaI E 0 h5 v165 u1).bind fun v170 =>
            lt (y5 &&& (v170 ^^^ (-1 : Int32))) fun u6 =>
            (gfR h5 y0 1 6).bind fun v179 =>
            (gaI E 0 h5 v179 u1).bind fun v184 =>
            L_X1_arriving_37 E y0 y2 y4 g u6 (y6 ||| v184) (y7 + (1 : Int32)) h5)
          y0 u1 E.2.2.1 u2 v93 h93
def F_X1_arriving (E : Ev) (a0 : Nat) (x1 : Int32) (x2 : Int32) (x3 : Int32) (h : Hp) : Rs :=
  (gfR h a0 1 0).bind fun v1 =>
  (isO h v1 9).bind fun _ => cV (F_X9_become E v1 x2 h) fun h5 =>
  (gfR h5 a0 1 4).bind fun v9 =>
  (gaR E 8 h5 v9 ((x3 * (8 : Int32)) + x2)).join.bind fun v18 =>
  (gfR h5 a0 1 9).bind fun v20 =>
  (isO h5 v18 6).bind fun _ => cI (F_X6_list E v18 v20 h5) fun v23 h23 =>
  L_X1_arriving_37 E a0 x2 v23 E.2.2.1 x1 (0 : Int32) (0 : Int32) h23
def L_X1_search_29 (E : Ev) (Rc : Nat → Int32 → Int32 → Hp → Rs) (K68 : Int32 → Hp → Rs) (y0 : Nat) (y1 : Int32) : Nat → Int32 → Int32 → Hp → Rs
  | 0, _, _, _ => none
  | g + 1, y3, y4, h =>
    if (8 : Int32) ≤ y4 then
      K68 y3 h
    else
      if y3 = 0 then
        K68 y3 h
      else
        (gfI h y0 1 1).bind fun v41 =>
        cI (F_X11_isIn E ((v41).toInt64) y4 h) fun v47 h47 =>
        if v47 = 0 then
          L_X1_search_29 E Rc K68 y0 y1 g y3 (y4 + (1 : Int32)) h47
        else
          (isO h47 y0 1).bind fun _ => cI (F_X1_arriving E y0 y3 y4 y1 h47) fun v58 h58 =>
          L_X1_search_29 E Rc K68 y0 y1 g v58 (y4 + (1 : Int32)) h58
def J_X1_search_86 (E : Ev) (Rc : Nat → Int32 → Int32 → Hp → Rs)  (y3 : Int32) (t0 : Nat) (t1 : Int32) (t2 : Int32) (h : Hp) : Rs :=
  (paI E h t0 t1 t2).bind fun h86 =>
  if y3 = 0 then
    rtZ (0 : Int32) h86
  else
    rtZ (1 : Int32) h86
def J_X1_search_68 (E : Ev) (Rc : Nat → Int32 → Int32 → Hp → Rs)  (y0 : Nat) (y1 : Int32) (y3 : Int32) (h : Hp) : Rs :=
  (gfR h y0 1 3).bind fun v69 =>
  if ¬ y3 = 0 then
    cI (F_X11_lowest E ((y3).toInt64) h) fun v83 h83 =>
    J_X1_search_86 E Rc y3 v69 y1 v83 h83
  else
    J_X1_search_86 E Rc y3 v69 y1 (-1 : Int32) h
def L_X1_search_100 (E : Ev) (Rc : Nat → Int32 → Int32 → Hp → Rs)  (y0 : Nat) (y1 : Int32) (y2 : Int32) : Nat → Int32 → Hp → Rs
  | 0, _, _ => none
  | g + 1, y4, h =>
    if (31 : Int32) ≤ y4 then
      rtZ (0 : Int32) h
    else
      (gfR h y0 1 3).bind fun v108 =>
      (paI E h v108 y1 y4).bind fun h114 =>
      (isO h114 y0 1).bind fun _ => cI (F_X1_allGoOn E y0 y4 y1 h114) fun v119 h119 =>
      if v119 = 0 then
        L_X1_search_100 E Rc y0 y1 y2 g (y4 + (1 : Int32)) h119
      else
        (isO h119 y0 1).bind fun _ => cI (Rc y0 (y1 + (1 : Int32)) (y2 - (1 : Int32)) h119) fun v132 h132 =>
        if v132 = 0 then
          L_X1_search_100 E Rc y0 y1 y2 g (y4 + (1 : Int32)) h132
        else
          rtZ (1 : Int32) h132
def F_X1_search (E : Ev) : Nat → Nat → Int32 → Int32 → Hp → Rs
  | 0, _, _, _, _ => none
  | n + 1, a0, x1, x2, h =>
    if x1 < 0 then
      rtZ (0 : Int32) h
    else
      if x2 < (1 : Int32) then
        rtZ (0 : Int32) h
      else
        if (x1 + x2) ≤ (3 : Int32) then
          if ¬ x2 = (1 : Int32) then
            L_X1_search_100 E (F_X1_search E n) a0 x1 x2 E.2.2.1 (0 : Int32) h
          else
            L_X1_search_29 E (F_X1_search E n)
              (fun w1 h3 =>
                J_X1_search_68 E (F_X1_search E n) a0 x1 w1 h3)
              a0 x1 E.2.2.1 (2147483647 : Int32) (0 : Int32) h
        else
          rtZ (0 : Int32) h
def L_X2_addTongue_13 (E : Ev) (K42 : Hp → Rs) (y0 : Nat) : Nat → Int32 → Hp → Rs
  | 0, _, _ => none
  | g + 1, y1, h =>
    if (12 : Int32) ≤ y1 then
      K42 h
    else
      (gfR h y0 2 1).bind fun v20 =>
      (gfI h y0 2 0).bind fun v24 =>
      (paI E h v20 ((v24 * (12 : Int32)) + y1) ((1 : Int32) <<< (y1 &&& 31))).bind fun h35 =>
      L_X2_addTongue_13 E K42 y0 g (y1 + (1 : Int32)) h35
def F_X2_addTongue (E : Ev) (a0 : Nat) (h : Hp) : Rs :=
  (gfI h a0 2 0).bind fun v1 =>
  if v1 < (6 : Int32) then
    L_X2_addTongue_13 E
      (fun h2 =>
        (gfI h2 a0 2 0).bind fun v44 =>
        (pf h2 a0 2 0 (.int (v44 + (1 : Int32)))).bind fun h50 =>
        rtI v44 h50)
      a0 E.2.2.1 (0 : Int32) h
  else
    rtI (-1 : Int32) h
def F_X2_addWalker (E : Ev) (a0 : Nat) (x1 : Int32) (x2 : Int32) (x3 : Int32) (x4 : Int32) (x5 : Int32) (h : Hp) : Rs :=
  (gfI h a0 2 2).bind fun v1 =>
  if v1 < (8 : Int32) then
    (gfR h a0 2 3).bind fun v12 =>
    (gfI h a0 2 2).bind fun v16 =>
    (paI E h v12 v16 x1).bind fun h20 =>
    (gfR h20 a0 2 4).bind fun v22 =>
    (gfI h20 a0 2 2).bind fun v26 =>
    (paI E h20 v22 v26 x2).bind fun h30 =>
    (gfR h30 a0 2 5).bind fun v32 =>
    (gfI h30 a0 2 2).bind fun v36 =>
    (paZ E h30 v32 v36 x3).bind fun h40 =>
    (gfR h40 a0 2 6).bind fun v42 =>
    (gfI h40 a0 2 2).bind fun v46 =>
    (paZ E h40 v42 v46 x4).bind fun h51 =>
    (gfR h51 a0 2 7).bind fun v53 =>
    (gfI h51 a0 2 2).bind fun v57 =>
    (paI E h51 v53 v57 x5).bind fun h62 =>
    (gfI h62 a0 2 2).bind fun v65 =>
    (pf h62 a0 2 2 (.int (v65 + (1 : Int32)))).bind fun h71 =>
    rtI v65 h71
  else
    rtI (-1 : Int32) h
def F_X2_kindsOf (E : Ev) (a0 : Nat) (x1 : Int32) (x2 : Int32) (h : Hp) : Rs :=
  (gfR h a0 2 1).bind fun v1 =>
  (gfR h a0 2 3).bind fun v5 =>
  (gaI E 0 h v5 x1).bind fun v9 =>
  (gaI E 0 h v1 ((v9 * (12 : Int32)) + x2)).bind fun v15 =>
  (gfR h a0 2 4).bind fun v17 =>
  (gaI E 0 h v17 x1).bind fun v21 =>
  rtI (v15 &&& v21) h
def L_X2_howManyKnow_20 (E : Ev) (K46 : Int32 → Hp → Rs) (y0 : Nat) (y4 : Int32) : Nat → Int32 → Int32 → Hp → Rs
  | 0, _, _, _ => none
  | g + 1, y5, y6, h =>
    if (12 : Int32) ≤ y6 then
      K46 y5 h
    else
      (isO h y0 2).bind fun _ => cI (F_X2_kindsOf E y0 y4 y6 h) fun v34 h34 =>
      L_X2_howManyKnow_20 E K46 y0 y4 g (y5 ||| v34) (y6 + (1 : Int32)) h34
def L_X2_howManyKnow_5 (E : Ev)  (y0 : Nat) (y1 : Int32) (y2 : Int32) : Nat → Int32 → Int32 → Hp → Rs
  | 0, _, _, _ => none
  | g + 1, y3, y4, h =>
    (gfI h y0 2 2).bind fun v8 =>
    if v8 ≤ y4 then
      rtI y3 h
    else
      L_X2_howManyKnow_20 E
        (fun w1 h3 =>
          cI (F_X11_isIn E ((y2).toInt64) y4 h3) fun v50 h50 =>
          if v50 = 0 then
            L_X2_howManyKnow_5 E y0 y1 y2 g y3 (y4 + (1 : Int32)) h50
          else
            cI (F_X11_isIn E ((w1).toInt64) y1 h50) fun v60 h60 =>
            if v60 = 0 then
              L_X2_howManyKnow_5 E y0 y1 y2 g y3 (y4 + (1 : Int32)) h60
            else
              L_X2_howManyKnow_5 E y0 y1 y2 g (y3 + (1 : Int32)) (y4 + (1 : Int32)) h60)
        y0 y4 E.2.2.1 (0 : Int32) (0 : Int32) h
def F_X2_howManyKnow (E : Ev) (a0 : Nat) (x1 : Int32) (x2 : Int32) (h : Hp) : Rs :=
  L_X2_howManyKnow_5 E a0 x1 x2 E.2.2.1 (0 : Int32) (0 : Int32) h
def L_X2_take_78 (E : Ev)  (y0 : Nat) (y1 : Nat) : Nat → Int32 → Hp → Rs
  | 0, _, _ => none
  | g + 1, y2, h =>
    if (8 : Int32) ≤ y2 then
      rtV h
    else
      (gfR h y0 2 5).bind fun v85 =>
      (gfR h y1 2 5).bind fun v90 =>
      (gaI E 2 h v90 y2).bind fun v94 =>
      (paZ E h v85 y2 v94).bind fun h95 =>
      (gfR h95 y0 2 6).bind fun v97 =>
      (gfR h95 y1 2 6).bind fun v102 =>
      (gaI E 2 h95 v102 y2).bind fun v106 =>
      (paZ E h95 v97 y2 v106).bind fun h107 =>
      L_X2_take_78 E y0 y1 g (y2 + (1 : Int32)) h107
def F_X2_take (E : Ev) (a0 : Nat) (a1 : Nat) (h : Hp) : Rs :=
  (gfI h a1 2 0).bind fun v2 =>
  (pf h a0 2 0 (.int v2)).bind fun h5 =>
  (gfR h5 a1 2 1).bind fun v9 =>
  (gfR h5 a0 2 1).bind fun v14 =>
  (acp E 0 h5 v9 (0 : Int32) v14 (0 : Int32) (72 : Int32)).bind fun h20 =>
  (gfI h20 a1 2 2).bind fun v25 =>
  (pf h20 a0 2 2 (.int v25)).bind fun h28 =>
  (gfR h28 a1 2 3).bind fun v32 =>
  (gfR h28 a0 2 3).bind fun v37 =>
  (acp E 0 h28 v32 (0 : Int32) v37 (0 : Int32) (8 : Int32)).bind fun h43 =>
  (gfR h43 a1 2 4).bind fun v47 =>
  (gfR h43 a0 2 4).bind fun v52 =>
  (acp E 0 h43 v47 (0 : Int32) v52 (0 : Int32) (8 : Int32)).bind fun h58 =>
  (gfR h58 a1 2 7).bind fun v62 =>
  (gfR h58 a0 2 7).bind fun v67 =>
  (acp E 0 h58 v62 (0 : Int32) v67 (0 : Int32) (8 : Int32)).bind fun h73 =>
  L_X2_take_78 E a0 a1 E.2.2.1 (0 : Int32) h73
def L_X3_isTaken_2 (E : Ev)  (y0 : Nat) (y1 : Int32) (y2 : Int32) : Nat → Int32 → Hp → Rs
  | 0, _, _ => none
  | g + 1, y3, h =>
    (gfI h y0 3 0).bind fun v4 =>
    if v4 ≤ y3 then
      rtZ (0 : Int32) h
    else
      (gfR h y0 3 1).bind fun v11 =>
      (gaI E 0 h v11 y3).bind fun v15 =>
      if ¬ v15 = y1 then
        L_X3_isTaken_2 E y0 y1 y2 g (y3 + (1 : Int32)) h
      else
        (gfR h y0 3 2).bind fun v21 =>
        (gaI E 0 h v21 y3).bind fun v25 =>
        if ¬ v25 = y2 then
          L_X3_isTaken_2 E y0 y1 y2 g (y3 + (1 : Int32)) h
        else
          rtZ (1 : Int32) h
def F_X3_isTaken (E : Ev) (a0 : Nat) (x1 : Int32) (x2 : Int32) (h : Hp) : Rs :=
  L_X3_isTaken_2 E a0 x1 x2 E.2.2.1 (0 : Int32) h
def F_X3_addPlace (E : Ev) (a0 : Nat) (x1 : Int32) (x2 : Int32) (h : Hp) : Rs :=
  (gfI h a0 3 0).bind fun v1 =>
  if v1 < (40 : Int32) then
    (gfR h a0 3 1).bind fun v12 =>
    (gfI h a0 3 0).bind fun v16 =>
    (paI E h v12 v16 x1).bind fun h20 =>
    (gfR h20 a0 3 2).bind fun v22 =>
    (gfI h20 a0 3 0).bind fun v26 =>
    (paI E h20 v22 v26 x2).bind fun h30 =>
    (gfI h30 a0 3 0).bind fun v33 =>
    (pf h30 a0 3 0 (.int (v33 + (1 : Int32)))).bind fun h39 =>
    rtI v33 h39
  else
    rtI (-1 : Int32) h
def J_X3_isJoined_65 (E : Ev) (K3 : Int32 → Hp → Rs) (y0 : Nat) (y1 : Int32) (y2 : Int32) (y3 : Int32) (y4 : Int32) (y5 : Int32) (t0 : Int32) (h : Hp) : Rs :=
  if t0 = 0 then
    K3 (y5 + (1 : Int32)) h
  else
    (gfR h y0 3 6).bind fun v73 =>
    (gaI E 0 h v73 y5).bind fun v78 =>
    if y4 < v78 then
      K3 (y5 + (1 : Int32)) h
    else
      (gfR h y0 3 7).bind fun v86 =>
      (gaI E 0 h v86 y5).bind fun v91 =>
      if v91 < y3 then
        K3 (y5 + (1 : Int32)) h
      else
        rtZ (1 : Int32) h
def J_X3_isJoined_48 (E : Ev) (K3 : Int32 → Hp → Rs) (y0 : Nat) (y1 : Int32) (y2 : Int32) (y3 : Int32) (y4 : Int32) (y5 : Int32) (y6 : Int32) (y7 : Int32) (h : Hp) : Rs :=
  if ¬ y6 = y2 then
    J_X3_isJoined_65 E K3 y0 y1 y2 y3 y4 y5 (0 : Int32) h
  else
    if ¬ y7 = y1 then
      J_X3_isJoined_65 E K3 y0 y1 y2 y3 y4 y5 (0 : Int32) h
    else
      J_X3_isJoined_65 E K3 y0 y1 y2 y3 y4 y5 (1 : Int32) h
def L_X3_isJoined_3 (E : Ev)  (y0 : Nat) (y1 : Int32) (y2 : Int32) (y3 : Int32) (y4 : Int32) : Nat → Int32 → Hp → Rs
  | 0, _, _ => none
  | g + 1, y5, h =>
    (gfI h y0 3 3).bind fun v6 =>
    if v6 ≤ y5 then
      rtZ (0 : Int32) h
    else
      (gfR h y0 3 8).bind fun v13 =>
      (gaI E 0 h v13 (((4 : Int32) * y5) + (1 : Int32))).bind fun v22 =>
      (gfR h y0 3 8).bind fun v26 =>
      (gaI E 0 h v26 ((4 : Int32) * y5)).bind fun v33 =>
      if ¬ v22 = y1 then
        J_X3_isJoined_48 E
          (fun w1 h5 =>
            L_X3_isJoined_3 E y0 y1 y2 y3 y4 g w1 h5)
          y0 y1 y2 y3 y4 y5 v22 v33 h
      else
        if v33 = y2 then
          J_X3_isJoined_65 E
            (fun w6 h10 =>
              L_X3_isJoined_3 E y0 y1 y2 y3 y4 g w6 h10)
            y0 y1 y2 y3 y4 y5 (1 : Int32) h
        else
          J_X3_isJoined_48 E
            (fun w11 h15 =>
              L_X3_isJoined_3 E y0 y1 y2 y3 y4 g w11 h15)
            y0 y1 y2 y3 y4 y5 v22 v33 h
def F_X3_isJoined (E : Ev) (a0 : Nat) (x1 : Int32) (x2 : Int32) (x3 : Int32) (x4 : Int32) (h : Hp) : Rs :=
  L_X3_isJoined_3 E a0 x1 x2 x3 x4 E.2.2.1 (0 : Int32) h
def F_X3_addWay (E : Ev) (a0 : Nat) (x1 : Int32) (x2 : Int32) (x3 : Int32) (x4 : Int32) (x5 : Int32) (x6 : Int32) (h : Hp) : Rs :=
  (gfI h a0 3 3).bind fun v1 =>
  if v1 < (60 : Int32) then
    (gfR h a0 3 4).bind fun v12 =>
    (gfI h a0 3 3).bind fun v16 =>
    (paI E h v12 v16 x3).bind fun h20 =>
    (gfR h20 a0 3 5).bind fun v22 =>
    (gfI h20 a0 3 3).bind fun v26 =>
    (paI E h20 v22 v26 x4).bind fun h31 =>
    (gfR h31 a0 3 6).bind fun v33 =>
    (gfI h31 a0 3 3).bind fun v37 =>
    (paI E h31 v33 v37 x5).bind fun h42 =>
    (gfR h42 a0 3 7).bind fun v44 =>
    (gfI h42 a0 3 3).bind fun v48 =>
    (paI E h42 v44 v48 x6).bind fun h53 =>
    (gfR h53 a0 3 8).bind fun v55 =>
    (gfI h53 a0 3 3).bind fun v60 =>
    (paI E h53 v55 ((4 : Int32) * v60) x2).bind fun h65 =>
    (gfR h65 a0 3 8).bind fun v67 =>
    (gfI h65 a0 3 3).bind fun v72 =>
    (paI E h65 v67 (((4 : Int32) * v72) + (1 : Int32)) x1).bind fun h79 =>
    (gfR h79 a0 3 8).bind fun v81 =>
    (gfI h79 a0 3 3).bind fun v86 =>
    (paI E h79 v81 (((4 : Int32) * v86) + (2 : Int32)) x1).bind fun h93 =>
    (gfR h93 a0 3 8).bind fun v95 =>
    (gfI h93 a0 3 3).bind fun v100 =>
    (paI E h93 v95 (((4 : Int32) * v100) + (3 : Int32)) x2).bind fun h107 =>
    (gfR h107 a0 3 9).bind fun v109 =>
    (gfI h107 a0 3 3).bind fun v114 =>
    (gfR h107 a0 3 1).bind fun v119 =>
    (gaI E 0 h107 v119 x2).bind fun v123 =>
    (gfR h107 a0 3 1).bind fun v125 =>
    (gaI E 0 h107 v125 x1).bind fun v129 =>
    (paI E h107 v109 ((2 : Int32) * v114) (v123 - v129)).bind fun h131 =>
    (gfR h131 a0 3 10).bind fun v133 =>
    (gfI h131 a0 3 3).bind fun v138 =>
    (gfR h131 a0 3 2).bind fun v143 =>
    (gaI E 0 h131 v143 x2).bind fun v147 =>
    (gfR h131 a0 3 2).bind fun v149 =>
    (gaI E 0 h131 v149 x1).bind fun v153 =>
    (paI E h131 v133 ((2 : Int32) * v138) (v147 - v153)).bind fun h155 =>
    (gfR h155 a0 3 9).bind fun v157 =>
    (gfI h155 a0 3 3).bind fun v162 =>
    (gfR h155 a0 3 1).bind fun v169 =>
    (gaI E 0 h155 v169 x1).bind fun v173 =>
    (gfR h155 a0 3 1).bind fun v175 =>
    (gaI E 0 h155 v175 x2).bind fun v179 =>
    (paI E h155 v157 (((2 : Int32) * v162) + (1 : Int32)) (v173 - v179)).bind fun h181 =>
    (gfR h181 a0 3 10).bind fun v183 =>
    (gfI h181 a0 3 3).bind fun v188 =>
    (gfR h181 a0 3 2).bind fun v195 =>
    (gaI E 0 h181 v195 x1).bind fun v199 =>
    (gfR h181 a0 3 2).bind fun v201 =>
    (gaI E 0 h181 v201 x2).bind fun v205 =>
    (paI E h181 v183 (((2 : Int32) * v188) + (1 : Int32)) (v199 - v205)).bind fun h207 =>
    (gfI h207 a0 3 3).bind fun v210 =>
    (pf h207 a0 3 3 (.int (v210 + (1 : Int32)))).bind fun h216 =>
    rtI v210 h216
  else
    rtI (-1 : Int32) h
def F_X3_addMark (E : Ev) (a0 : Nat) (x1 : Int32) (x2 : Int32) (x3 : Int32) (x4 : Int32) (x5 : Int32) (h : Hp) : Rs :=
  (gfI h a0 3 11).bind fun v1 =>
  if v1 < (40 : Int32) then
    (gfR h a0 3 12).bind fun v12 =>
    (gfI h a0 3 11).bind fun v16 =>
    (paI E h v12 v16 x1).bind fun h20 =>
    (gfR h20 a0 3 13).bind fun v22 =>
    (gfI h20 a0 3 11).bind fun v26 =>
    (paI E h20 v22 v26 x2).bind fun h30 =>
    (gfR h30 a0 3 14).bind fun v32 =>
    (gfI h30 a0 3 11).bind fun v36 =>
    (paZ E h30 v32 v36 x3).bind fun h40 =>
    (gfR h40 a0 3 15).bind fun v42 =>
    (gfI h40 a0 3 11).bind fun v46 =>
    (paI E h40 v42 v46 x4).bind fun h51 =>
    (gfR h51 a0 3 16).bind fun v53 =>
    (gfI h51 a0 3 11).bind fun v57 =>
    (paI E h51 v53 v57 x5).bind fun h62 =>
    (gfI h62 a0 3 11).bind fun v65 =>
    (pf h62 a0 3 11 (.int (v65 + (1 : Int32)))).bind fun h71 =>
    rtI v65 h71
  else
    rtI (-1 : Int32) h
def L_X3_marksOf_5 (E : Ev)  (y0 : Nat) (y1 : Int32) (y2 : Int32) : Nat → Int32 → Int32 → Hp → Rs
  | 0, _, _, _ => none
  | g + 1, y3, y4, h =>
    (gfI h y0 3 11).bind fun v8 =>
    if v8 ≤ y4 then
      rtI y3 h
    else
      (gfR h y0 3 13).bind fun v15 =>
      (gaI E 0 h v15 y4).bind fun v20 =>
      if ¬ v20 = y1 then
        L_X3_marksOf_5 E y0 y1 y2 g y3 (y4 + (1 : Int32)) h
      else
        (gfR h y0 3 15).bind fun v26 =>
        (gaI E 0 h v26 y4).bind fun v31 =>
        if y2 < v31 then
          L_X3_marksOf_5 E y0 y1 y2 g y3 (y4 + (1 : Int32)) h
        else
          (gfR h y0 3 16).bind fun v38 =>
          (gaI E 0 h v38 y4).bind fun v43 =>
          if v43 < y2 then
            L_X3_marksOf_5 E y0 y1 y2 g y3 (y4 + (1 : Int32)) h
          else
            L_X3_marksOf_5 E y0 y1 y2 g (y3 + (1 : Int32)) (y4 + (1 : Int32)) h
def F_X3_marksOf (E : Ev) (a0 : Nat) (x1 : Int32) (x2 : Int32) (h : Hp) : Rs :=
  L_X3_marksOf_5 E a0 x1 x2 E.2.2.1 (0 : Int32) (0 : Int32) h
def L_X3_take_222 (E : Ev)  (y0 : Nat) (y1 : Nat) : Nat → Int32 → Hp → Rs
  | 0, _, _ => none
  | g + 1, y2, h =>
    if (40 : Int32) ≤ y2 then
      rtV h
    else
      (gfR h y0 3 14).bind fun v229 =>
      (gfR h y1 3 14).bind fun v234 =>
      (gaI E 2 h v234 y2).bind fun v238 =>
      (paZ E h v229 y2 v238).bind fun h239 =>
      L_X3_take_222 E y0 y1 g (y2 + (1 : Int32)) h239
def F_X3_take (E : Ev) (a0 : Nat) (a1 : Nat) (h : Hp) : Rs :=
  (gfI h a1 3 0).bind fun v2 =>
  (pf h a0 3 0 (.int v2)).bind fun h5 =>
  (gfR h5 a1 3 1).bind fun v9 =>
  (gfR h5 a0 3 1).bind fun v14 =>
  (acp E 0 h5 v9 (0 : Int32) v14 (0 : Int32) (40 : Int32)).bind fun h20 =>
  (gfR h20 a1 3 2).bind fun v24 =>
  (gfR h20 a0 3 2).bind fun v29 =>
  (acp E 0 h20 v24 (0 : Int32) v29 (0 : Int32) (40 : Int32)).bind fun h35 =>
  (gfI h35 a1 3 3).bind fun v40 =>
  (pf h35 a0 3 3 (.int v40)).bind fun h43 =>
  (gfR h43 a1 3 4).bind fun v47 =>
  (gfR h43 a0 3 4).bind fun v52 =>
  (acp E 0 h43 v47 (0 : Int32) v52 (0 : Int32) (60 : Int32)).bind fun h58 =>
  (gfR h58 a1 3 5).bind fun v62 =>
  (gfR h58 a0 3 5).bind fun v67 =>
  (acp E 0 h58 v62 (0 : Int32) v67 (0 : Int32) (60 : Int32)).bind fun h73 =>
  (gfR h73 a1 3 6).bind fun v77 =>
  (gfR h73 a0 3 6).bind fun v82 =>
  (acp E 0 h73 v77 (0 : Int32) v82 (0 : Int32) (60 : Int32)).bind fun h88 =>
  (gfR h88 a1 3 7).bind fun v92 =>
  (gfR h88 a0 3 7).bind fun v97 =>
  (acp E 0 h88 v92 (0 : Int32) v97 (0 : Int32) (60 : Int32)).bind fun h103 =>
  (gfR h103 a1 3 8).bind fun v107 =>
  (gfR h103 a0 3 8).bind fun v112 =>
  (acp E 0 h103 v107 (0 : Int32) v112 (0 : Int32) (240 : Int32)).bind fun h119 =>
  (gfR h119 a1 3 9).bind fun v123 =>
  (gfR h119 a0 3 9).bind fun v128 =>
  (acp E 0 h119 v123 (0 : Int32) v128 (0 : Int32) (120 : Int32)).bind fun h134 =>
  (gfR h134 a1 3 10).bind fun v138 =>
  (gfR h134 a0 3 10).bind fun v143 =>
  (acp E 0 h134 v138 (0 : Int32) v143 (0 : Int32) (120 : Int32)).bind fun h149 =>
  (gfI h149 a1 3 11).bind fun v154 =>
  (pf h149 a0 3 11 (.int v154)).bind fun h157 =>
  (gfR h157 a1 3 12).bind fun v161 =>
  (gfR h157 a0 3 12).bind fun v166 =>
  (acp E 0 h157 v161 (0 : Int32) v166 (0 : Int32) (40 : Int32)).bind fun h172 =>
  (gfR h172 a1 3 13).bind fun v176 =>
  (gfR h172 a0 3 13).bind fun v181 =>
  (acp E 0 h172 v176 (0 : Int32) v181 (0 : Int32) (40 : Int32)).bind fun h187 =>
  (gfR h187 a1 3 15).bind fun v191 =>
  (gfR h187 a0 3 15).bind fun v196 =>
  (acp E 0 h187 v191 (0 : Int32) v196 (0 : Int32) (40 : Int32)).bind fun h202 =>
  (gfR h202 a1 3 16).bind fun v206 =>
  (gfR h202 a0 3 16).bind fun v211 =>
  (acp E 0 h202 v206 (0 : Int32) v211 (0 : Int32) (40 : Int32)).bind fun h217 =>
  L_X3_take_222 E a0 a1 E.2.2.1 (0 : Int32) h217
def L_J7_fill_53178_5 (E : Ev)  (y0 : Nat) (y1 : Int32) (y3 : Int32) : Nat → Int32 → Hp → Rs
  | 0, _, _ => none
  | g + 1, y2, h =>
    if y3 ≤ y2 then
      rtV h
    else
      (paI E h y0 y2 y1).bind fun h13 =>
      L_J7_fill_53178_5 E y0 y1 y3 g (y2 + (1 : Int32)) h13
def F_J7_fill_53178 (E : Ev) (a0 : Nat) (x1 : Int32) (h : Hp) : Rs :=
  (aln E 0 h a0).bind fun v3 =>
  L_J7_fill_53178_5 E a0 x1 v3 E.2.2.1 (0 : Int32) h
def F_X4_start (E : Ev) (a0 : Nat) (x1 : Int32) (h : Hp) : Rs :=
  (gfR h a0 4 1).bind fun v1 =>
  cV (F_J7_fill_53178 E v1 (0 : Int32) h) fun h5 =>
  (gfR h5 a0 4 1).bind fun v9 =>
  (paI E h5 v9 x1 (1000000 : Int32)).bind fun h15 =>
  rtV h15
def L_X4_share_31 (E : Ev)  (y0 : Nat) (y3 : Nat) (y4 : Int32) (y5 : Int32) (y6 : Int32) : Nat → Int32 → Hp → Rs
  | 0, _, _ => none
  | g + 1, y7, h =>
    if y4 ≤ y7 then
      rtV h
    else
      (gfR h y0 4 5).bind fun v40 =>
      (gaI E 0 h v40 y7).bind fun v45 =>
      (gaI E 0 h y3 v45).bind fun v47 =>
      if y6 ≤ y7 then
        (paI E h y3 v45 (v47 + y5)).bind fun h65 =>
        L_X4_share_31 E y0 y3 y4 y5 y6 g (y7 + (1 : Int32)) h65
      else
        (paI E h y3 v45 (v47 + (y5 + (1 : Int32)))).bind fun h65 =>
        L_X4_share_31 E y0 y3 y4 y5 y6 g (y7 + (1 : Int32)) h65
def F_X4_share (E : Ev) (a0 : Nat) (x1 : Int32) (a2 : Nat) (a3 : Nat) (h : Hp) : Rs :=
  (gfR h a0 4 5).bind fun v2 =>
  (isO h a2 6).bind fun _ => cI (F_X6_list E a2 v2 h) fun v5 h5 =>
  if ¬ v5 = 0 then
    (dvI x1 v5).bind fun v19 =>
    (rmI x1 v5).bind fun v25 =>
    L_X4_share_31 E a0 a3 v5 v19 v25 E.2.2.1 (0 : Int32) h5
  else
    rtV h5
def F_X4_spread (E : Ev) (a0 : Nat) (a1 : Nat) (h : Hp) : Rs :=
  (gfR h a0 4 1).bind fun v1 =>
  cV (F_J7_fill_53178 E v1 (0 : Int32) h) fun h5 =>
  (gfR h5 a0 4 1).bind fun v13 =>
  (isO h5 a0 4).bind fun _ => cV (F_X4_share E a0 (1000000 : Int32) a1 v13 h5) fun h16 =>
  rtV h16
def L_X4_goOn_78 (E : Ev) (K141 : Hp → Rs) (y0 : Nat) (y4 : Int32) : Nat → Int32 → Hp → Rs
  | 0, _, _ => none
  | g + 1, y6, h =>
    if (4 : Int32) ≤ y6 then
      K141 h
    else
      (gfR h y0 4 0).bind fun v85 =>
      (gfR h v85 9 2).bind fun v88 =>
      (gfR h v88 0 4).bind fun v91 =>
      (gaI E 0 h v91 (y4 + y6)).bind fun v99 =>
      if v99 = 0 then
        K141 h
      else
        (gfR h y0 4 0).bind fun v104 =>
        (gfR h y0 4 0).bind fun v108 =>
        (gfR h v108 9 2).bind fun v111 =>
        (gfR h v111 0 4).bind fun v114 =>
        (gaI E 0 h v114 (y4 + y6)).bind fun v122 =>
        (gfR h y0 4 3).bind fun v124 =>
        (gfR h y0 4 4).bind fun v129 =>
        (isO h v104 9).bind fun _ => cV (F_X9_lead E v104 v122 v124 (1 : Int32) v129 h) fun h132 =>
        L_X4_goOn_78 E K141 y0 y4 g (y6 + (1 : Int32)) h132
def J_X4_goOn_141 (E : Ev) (K39 : Int32 → Hp → Rs) (y0 : Nat) (y4 : Int32) (y5 : Int32) (h : Hp) : Rs :=
  (gfR h y0 4 1).bind fun v143 =>
  (gaI E 0 h v143 y5).bind fun v148 =>
  (gfR h y0 4 4).bind fun v150 =>
  (gfR h y0 4 2).bind fun v154 =>
  (isO h y0 4).bind fun _ => cV (F_X4_share E y0 v148 v150 v154 h) fun h157 =>
  K39 (y5 + (1 : Int32)) h157
def L_X4_goOn_39 (E : Ev) (K166 : Hp → Rs) (y0 : Nat) (y4 : Int32) : Nat → Int32 → Hp → Rs
  | 0, _, _ => none
  | g + 1, y5, h =>
    if (240 : Int32) ≤ y5 then
      K166 h
    else
      (gfR h y0 4 1).bind fun v48 =>
      (gaI E 0 h v48 y5).bind fun v53 =>
      if ¬ v53 = 0 then
        (gfR h y0 4 3).bind fun v61 =>
        (paI E h v61 (0 : Int32) y5).bind fun h67 =>
        (gfR h67 y0 4 4).bind fun v69 =>
        (isO h67 v69 6).bind fun _ => cV (F_X6_clear E v69 h67) fun h72 =>
        L_X4_goOn_78 E
          (fun h2 =>
            J_X4_goOn_141 E
              (fun w3 h5 =>
                L_X4_goOn_39 E K166 y0 y4 g w3 h5)
              y0 y4 y5 h2)
          y0 y4 E.2.2.1 (0 : Int32) h72
      else
        L_X4_goOn_39 E K166 y0 y4 g (y5 + (1 : Int32)) h
def L_X4_goOn_2 (E : Ev)  (y0 : Nat) (y1 : Int32) : Nat → Int32 → Hp → Rs
  | 0, _, _ => none
  | g + 1, y3, h =>
    (gfR h y0 4 0).bind fun v4 =>
    (gfR h v4 9 2).bind fun v7 =>
    (gfR h v7 0 3).bind fun v10 =>
    (gaI E 0 h v10 y1).bind fun v14 =>
    if v14 ≤ y3 then
      rtV h
    else
      lt ((y1 * (40 : Int32)) + (y3 * (4 : Int32))) fun u1 =>
      (gfR h y0 4 2).bind fun v29 =>
      cV (F_J7_fill_53178 E v29 (0 : Int32) h) fun h33 =>
      L_X4_goOn_39 E
        (fun h4 =>
          (gfR h4 y0 4 1).bind fun v167 =>
          (gfR h4 y0 4 2).bind fun v174 =>
          (pf h4 y0 4 1 (.ref v174)).bind fun h177 =>
          (pf h177 y0 4 2 (.ref v167)).bind fun h183 =>
          L_X4_goOn_2 E y0 y1 g (y3 + (1 : Int32)) h183)
        y0 u1 E.2.2.1 (0 : Int32) h33
def F_X4_goOn (E : Ev) (a0 : Nat) (x1 : Int32) (x2 : Int32) (h : Hp) : Rs :=
  L_X4_goOn_2 E a0 x1 E.2.2.1 x2 h
def L_X4_partsAt_4 (E : Ev)  (y0 : Nat) (y1 : Int32) : Nat → Int32 → Int32 → Hp → Rs
  | 0, _, _, _ => none
  | g + 1, y2, y3, h =>
    (gfR h y0 4 0).bind fun v7 =>
    (gfR h v7 9 0).bind fun v10 =>
    (gfR h v10 10 0).bind fun v13 =>
    (gfI h v13 3 3).bind fun v16 =>
    if ((4 : Int32) * v16) ≤ y3 then
      rtI y2 h
    else
      (gfR h y0 4 0).bind fun v24 =>
      (gfR h v24 9 0).bind fun v27 =>
      (gfR h v27 10 0).bind fun v30 =>
      (gfR h v30 3 8).bind fun v33 =>
      (gaI E 0 h v33 y3).bind fun v37 =>
      if ¬ v37 = y1 then
        L_X4_partsAt_4 E y0 y1 g y2 (y3 + (1 : Int32)) h
      else
        (gfR h y0 4 1).bind fun v44 =>
        (gaI E 0 h v44 y3).bind fun v48 =>
        L_X4_partsAt_4 E y0 y1 g (y2 + v48) (y3 + (1 : Int32)) h
def F_X4_partsAt (E : Ev) (a0 : Nat) (x1 : Int32) (h : Hp) : Rs :=
  L_X4_partsAt_4 E a0 x1 E.2.2.1 (0 : Int32) (0 : Int32) h
def L_X4_sumUp_7 (E : Ev)  (y0 : Nat) (y1 : Nat) : Nat → Int32 → Hp → Rs
  | 0, _, _ => none
  | g + 1, y2, h =>
    (gfR h y0 4 0).bind fun v10 =>
    (gfR h v10 9 0).bind fun v13 =>
    (gfR h v13 10 0).bind fun v16 =>
    (gfI h v16 3 3).bind fun v19 =>
    if ((4 : Int32) * v19) ≤ y2 then
      rtV h
    else
      (gfR h y0 4 0).bind fun v28 =>
      (gfR h v28 9 0).bind fun v31 =>
      (gfR h v31 10 0).bind fun v34 =>
      (gfR h v34 3 8).bind fun v37 =>
      (gaI E 0 h v37 y2).bind fun v41 =>
      (gaI E 0 h y1 v41).bind fun v43 =>
      (gfR h y0 4 1).bind fun v45 =>
      (gaI E 0 h v45 y2).bind fun v49 =>
      (paI E h y1 v41 (v43 + v49)).bind fun h51 =>
      L_X4_sumUp_7 E y0 y1 g (y2 + (1 : Int32)) h51
def F_X4_sumUp (E : Ev) (a0 : Nat) (a1 : Nat) (h : Hp) : Rs :=
  cV (F_J7_fill_53178 E a1 (0 : Int32) h) fun h2 =>
  L_X4_sumUp_7 E a0 a1 E.2.2.1 (0 : Int32) h2
def L_X4_meet_45 (E : Ev)  (y0 : Nat) : Nat → Int64 → Int32 → Hp → Rs
  | 0, _, _, _ => none
  | g + 1, y5, y7, h =>
    if (40 : Int32) ≤ y7 then
      rtI ((y5).toInt32) h
    else
      (gfR h y0 4 6).bind fun v55 =>
      (gaI E 0 h v55 y7).bind fun v60 =>
      (gfR h y0 4 7).bind fun v63 =>
      (gaI E 0 h v63 y7).bind fun v68 =>
      (dvL (((v60).toInt64) * ((v68).toInt64)) (1000000 : Int64)).bind fun v74 =>
      L_X4_meet_45 E y0 g (y5 + v74) (y7 + (1 : Int32)) h
def F_X4_meet (E : Ev) (a0 : Nat) (x1 : Int32) (x2 : Int32) (x3 : Int32) (x4 : Int32) (h : Hp) : Rs :=
  (isO h a0 4).bind fun _ => cV (F_X4_start E a0 x2 h) fun h2 =>
  (isO h2 a0 4).bind fun _ => cV (F_X4_goOn E a0 x1 (0 : Int32) h2) fun h8 =>
  (gfR h8 a0 4 6).bind fun v13 =>
  (isO h8 a0 4).bind fun _ => cV (F_X4_sumUp E a0 v13 h8) fun h16 =>
  (isO h16 a0 4).bind fun _ => cV (F_X4_start E a0 x4 h16) fun h22 =>
  (isO h22 a0 4).bind fun _ => cV (F_X4_goOn E a0 x3 (0 : Int32) h22) fun h28 =>
  (gfR h28 a0 4 7).bind fun v33 =>
  (isO h28 a0 4).bind fun _ => cV (F_X4_sumUp E a0 v33 h28) fun h36 =>
  L_X4_meet_45 E a0 E.2.2.1 (0 : Int64) (0 : Int32) h36
def L_X5_put_3 (E : Ev)  (y0 : Nat) (y1 : Int32) : Nat → Int32 → Hp → Rs
  | 0, _, _ => none
  | g + 1, y2, h =>
    if y2 < 0 then
      rtV h
    else
      (gfI h y0 5 1).bind fun v8 =>
      if (200 : Int32) ≤ v8 then
        rtV h
      else
        (gfR h y0 5 0).bind fun v18 =>
        (gfI h y0 5 1).bind fun v22 =>
        (paB E h v18 v22 (((y1 >>> (y2 &&& 31))).toInt8.toInt32)).bind fun h29 =>
        (gfI h29 y0 5 1).bind fun v32 =>
        (pf h29 y0 5 1 (.int (v32 + (1 : Int32)))).bind fun h37 =>
        L_X5_put_3 E y0 y1 g (y2 + (-8 : Int32)) h37
def F_X5_put (E : Ev) (a0 : Nat) (x1 : Int32) (h : Hp) : Rs :=
  L_X5_put_3 E a0 x1 E.2.2.1 (24 : Int32) h
def J_X5_scanNumber_82 (E : Ev) (K5 : Hp → Rs) (y0 : Nat) (y1 : Int32) (t0 : Nat) (t1 : Int32) (h : Hp) : Rs :=
  (pf h t0 5 9 (.int t1)).bind fun h82 =>
  (gfI h82 y0 5 6).bind fun v87 =>
  (pf h82 y0 5 6 (.int (v87 + (1 : Int32)))).bind fun h92 =>
  K5 h92
def L_X5_scanNumber_5 (E : Ev) (K98 : Hp → Rs) (y0 : Nat) (y1 : Int32) : Nat → Hp → Rs
  | 0, _ => none
  | g + 1, h =>
    (gfI h y0 5 6).bind fun v6 =>
    if y1 ≤ v6 then
      K98 h
    else
      (gfR h y0 5 0).bind fun v14 =>
      (gfI h y0 5 6).bind fun v18 =>
      (gaI E 3 h v14 v18).bind fun v21 =>
      if v21 < (48 : Int32) then
        K98 h
      else
        (gfR h y0 5 0).bind fun v28 =>
        (gfI h y0 5 6).bind fun v32 =>
        (gaI E 3 h v28 v32).bind fun v35 =>
        if (57 : Int32) < v35 then
          K98 h
        else
          (gfI h y0 5 6).bind fun v43 =>
          (gfI h y0 5 7).bind fun v47 =>
          if (2 : Int32) ≤ (v43 - v47) then
            (gfI h y0 5 9).bind fun v79 =>
            J_X5_scanNumber_82 E
              (fun h1 =>
                L_X5_scanNumber_5 E K98 y0 y1 g h1)
              y0 y1 y0 v79 h
          else
            (gfI h y0 5 9).bind fun v58 =>
            (gfR h y0 5 0).bind fun v63 =>
            (gfI h y0 5 6).bind fun v67 =>
            (gaI E 3 h v63 v67).bind fun v70 =>
            J_X5_scanNumber_82 E
              (fun h2 =>
                L_X5_scanNumber_5 E K98 y0 y1 g h2)
              y0 y1 y0 ((((10 : Int32) * v58) + v70) - (48 : Int32)) h
def J_X5_scanNumber_98 (E : Ev)  (y0 : Nat) (h : Hp) : Rs :=
  (gfI h y0 5 6).bind fun v100 =>
  (gfI h y0 5 7).bind fun v104 =>
  if (2 : Int32) < (v100 - v104) then
    (pf h y0 5 8 (.int (-1 : Int32))).bind fun h118 =>
    rtV h118
  else
    (pf h y0 5 8 (.int (24 : Int32))).bind fun h118 =>
    rtV h118
def F_X5_scanNumber (E : Ev) (a0 : Nat) (x1 : Int32) (h : Hp) : Rs :=
  (pf h a0 5 9 (.int (0 : Int32))).bind fun h2 =>
  L_X5_scanNumber_5 E
    (fun h1 =>
      J_X5_scanNumber_98 E a0 h1)
    a0 x1 E.2.2.1 h2
def J_X5_isWord_37 (E : Ev) (K2 : Int32 → Hp → Rs) (y0 : Nat) (y1 : Int32) (y2 : Int32) (t0 : Int32) (h : Hp) : Rs :=
  (sCh 0 ((y1 * (6 : Int32)) + y2)).bind fun v46 =>
  if v46 = t0 then
    K2 (y2 + (1 : Int32)) h
  else
    rtZ (0 : Int32) h
def L_X5_isWord_2 (E : Ev)  (y0 : Nat) (y1 : Int32) : Nat → Int32 → Hp → Rs
  | 0, _, _ => none
  | g + 1, y2, h =>
    if (6 : Int32) ≤ y2 then
      rtZ (1 : Int32) h
    else
      (gfI h y0 5 7).bind fun v9 =>
      (gfI h y0 5 6).bind fun v15 =>
      if v15 ≤ (v9 + y2) then
        J_X5_isWord_37 E
          (fun w1 h3 =>
            L_X5_isWord_2 E y0 y1 g w1 h3)
          y0 y1 y2 (32 : Int32) h
      else
        (gfR h y0 5 0).bind fun v22 =>
        (gfI h y0 5 7).bind fun v26 =>
        (gaI E 3 h v22 (v26 + y2)).bind fun v31 =>
        J_X5_isWord_37 E
          (fun w4 h6 =>
            L_X5_isWord_2 E y0 y1 g w4 h6)
          y0 y1 y2 v31 h
def F_X5_isWord (E : Ev) (a0 : Nat) (x1 : Int32) (h : Hp) : Rs :=
  L_X5_isWord_2 E a0 x1 E.2.2.1 (0 : Int32) h
def L_X5_scanWord_0 (E : Ev) (K49 : Hp → Rs) (y0 : Nat) (y1 : Int32) : Nat → Hp → Rs
  | 0, _ => none
  | g + 1, h =>
    (gfI h y0 5 6).bind fun v1 =>
    if y1 ≤ v1 then
      K49 h
    else
      (gfR h y0 5 0).bind fun v9 =>
      (gfI h y0 5 6).bind fun v13 =>
      (gaI E 3 h v9 v13).bind fun v16 =>
      if v16 < (97 : Int32) then
        K49 h
      else
        (gfR h y0 5 0).bind fun v23 =>
        (gfI h y0 5 6).bind fun v27 =>
        (gaI E 3 h v23 v27).bind fun v30 =>
        if (122 : Int32) < v30 then
          K49 h
        else
          (gfI h y0 5 6).bind fun v38 =>
          (pf h y0 5 6 (.int (v38 + (1 : Int32)))).bind fun h43 =>
          L_X5_scanWord_0 E K49 y0 y1 g h43
def L_X5_scanWord_57 (E : Ev)  (y0 : Nat) : Nat → Int32 → Hp → Rs
  | 0, _, _ => none
  | g + 1, y2, h =>
    if (24 : Int32) ≤ y2 then
      rtV h
    else
      (gfI h y0 5 6).bind fun v64 =>
      (gfI h y0 5 7).bind fun v68 =>
      if (6 : Int32) < (v64 - v68) then
        rtV h
      else
        (isO h y0 5).bind fun _ => cI (F_X5_isWord E y0 y2 h) fun v79 h79 =>
        if v79 = 0 then
          L_X5_scanWord_57 E y0 g (y2 + (1 : Int32)) h79
        else
          (pf h79 y0 5 8 (.int y2)).bind fun h87 =>
          L_X5_scanWord_57 E y0 g (y2 + (1 : Int32)) h87
def F_X5_scanWord (E : Ev) (a0 : Nat) (x1 : Int32) (h : Hp) : Rs :=
  L_X5_scanWord_0 E
    (fun h1 =>
      (pf h1 a0 5 8 (.int (27 : Int32))).bind fun h52 =>
      L_X5_scanWord_57 E a0 E.2.2.1 (0 : Int32) h52)
    a0 x1 E.2.2.1 h
def J_X5_scan_36 (E : Ev) (K0 : Hp → Rs) (y0 : Nat) (y1 : Int32) (h : Hp) : Rs :=
  (gfI h y0 5 6).bind fun v38 =>
  (pf h y0 5 6 (.int (v38 + (1 : Int32)))).bind fun h43 =>
  K0 h43
def L_X5_scan_0 (E : Ev) (K49 : Hp → Rs) (y0 : Nat) (y1 : Int32) : Nat → Hp → Rs
  | 0, _ => none
  | g + 1, h =>
    (gfI h y0 5 6).bind fun v1 =>
    if y1 ≤ v1 then
      K49 h
    else
      (gfR h y0 5 0).bind fun v9 =>
      (gfI h y0 5 6).bind fun v13 =>
      (gaI E 3 h v9 v13).bind fun v16 =>
      if v16 = (32 : Int32) then
        J_X5_scan_36 E
          (fun h1 =>
            L_X5_scan_0 E K49 y0 y1 g h1)
          y0 y1 h
      else
        (gfR h y0 5 0).bind fun v23 =>
        (gfI h y0 5 6).bind fun v27 =>
        (gaI E 3 h v23 v27).bind fun v30 =>
        if ¬ v30 = (10 : Int32) then
          K49 h
        else
          J_X5_scan_36 E
            (fun h2 =>
              L_X5_scan_0 E K49 y0 y1 g h2)
            y0 y1 h
def J_X5_scan_143 (E : Ev)  (y0 : Nat) (y1 : Int32) (h : Hp) : Rs :=
  (gfR h y0 5 0).bind fun v144 =>
  (gfI h y0 5 6).bind fun v148 =>
  (gaI E 3 h v144 v148).bind fun v151 =>
  if v151 < (97 : Int32) then
    (pf h y0 5 8 (.int (-1 : Int32))).bind fun h181 =>
    rtV h181
  else
    (gfR h y0 5 0).bind fun v158 =>
    (gfI h y0 5 6).bind fun v162 =>
    (gaI E 3 h v158 v162).bind fun v165 =>
    if (122 : Int32) < v165 then
      (pf h y0 5 8 (.int (-1 : Int32))).bind fun h181 =>
      rtV h181
    else
      (isO h y0 5).bind fun _ => cV (F_X5_scanWord E y0 y1 h) fun h173 =>
      rtV h173
def J_X5_scan_49 (E : Ev)  (y0 : Nat) (y1 : Int32) (h : Hp) : Rs :=
  (gfI h y0 5 6).bind fun v51 =>
  (pf h y0 5 7 (.int v51)).bind fun h54 =>
  (gfI h54 y0 5 6).bind fun v58 =>
  if v58 < y1 then
    (gfR h54 y0 5 0).bind fun v75 =>
    (gfI h54 y0 5 6).bind fun v79 =>
    (gaI E 3 h54 v75 v79).bind fun v82 =>
    if ¬ v82 = (59 : Int32) then
      (gfR h54 y0 5 0).bind fun v108 =>
      (gfI h54 y0 5 6).bind fun v112 =>
      (gaI E 3 h54 v108 v112).bind fun v115 =>
      if v115 < (48 : Int32) then
        J_X5_scan_143 E y0 y1 h54
      else
        (gfR h54 y0 5 0).bind fun v122 =>
        (gfI h54 y0 5 6).bind fun v126 =>
        (gaI E 3 h54 v122 v126).bind fun v129 =>
        if (57 : Int32) < v129 then
          J_X5_scan_143 E y0 y1 h54
        else
          (isO h54 y0 5).bind fun _ => cV (F_X5_scanNumber E y0 y1 h54) fun h137 =>
          rtV h137
    else
      (gfI h54 y0 5 6).bind fun v90 =>
      (pf h54 y0 5 6 (.int (v90 + (1 : Int32)))).bind fun h95 =>
      (pf h95 y0 5 8 (.int (25 : Int32))).bind fun h101 =>
      rtV h101
  else
    (pf h54 y0 5 8 (.int (26 : Int32))).bind fun h68 =>
    rtV h68
def F_X5_scan (E : Ev) (a0 : Nat) (x1 : Int32) (h : Hp) : Rs :=
  L_X5_scan_0 E
    (fun h1 =>
      J_X5_scan_49 E a0 x1 h1)
    a0 x1 E.2.2.1 h
def F_X5_await (E : Ev) (a0 : Nat) (x1 : Int32) (x2 : Int32) (h : Hp) : Rs :=
  (pf h a0 5 10 (.int x1)).bind fun h2 =>
  (pf h2 a0 5 12 (.int x2)).bind fun h7 =>
  rtI (0 : Int32) h7
def F_X5_keep (E : Ev) (a0 : Nat) (x1 : Int32) (x2 : Int32) (h : Hp) : Rs :=
  (gfI h a0 5 5).bind fun v1 =>
  (gfI h a0 5 11).bind fun v7 =>
  lt ((v1 * (4 : Int32)) + v7) fun u1 =>
  if (40 : Int32) ≤ u1 then
    (pf h a0 5 10 (.int x2)).bind fun h27 =>
    rtI (0 : Int32) h27
  else
    (gfR h a0 5 4).bind fun v19 =>
    (paI E h v19 u1 x1).bind fun h24 =>
    (pf h24 a0 5 10 (.int x2)).bind fun h27 =>
    rtI (0 : Int32) h27
def F_X5_isBadNumber (E : Ev) (a0 : Nat) (h : Hp) : Rs :=
  (gfI h a0 5 9).bind fun v1 =>
  if v1 < (1 : Int32) then
    rtZ (1 : Int32) h
  else
    (gfI h a0 5 9).bind fun v9 =>
    if v9 ≤ (20 : Int32) then
      rtZ (0 : Int32) h
    else
      rtZ (1 : Int32) h
def F_X5_takeAmount (E : Ev) (a0 : Nat) (x1 : Int32) (h : Hp) : Rs :=
  (gfI h a0 5 8).bind fun v1 =>
  if v1 = (24 : Int32) then
    (isO h a0 5).bind fun _ => cI (F_X5_isBadNumber E a0 h) fun v12 h12 =>
    if v12 = 0 then
      (gfI h12 a0 5 9).bind fun v25 =>
      cI (F_X11_wordOf E x1 v25 (15 : Int32) h12) fun v30 h30 =>
      (isO h30 a0 5).bind fun _ => cI (F_X5_keep E a0 v30 (6 : Int32) h30) fun v35 h35 =>
      rtI v35 h35
    else
      rtI (3 : Int32) h12
  else
    rtI (2 : Int32) h
def F_X5_takeWord (E : Ev) (a0 : Nat) (h : Hp) : Rs :=
  (pf h a0 5 13 (.int (0 : Int32))).bind fun h2 =>
  (gfI h2 a0 5 8).bind fun v6 =>
  if v6 = (12 : Int32) then
    (isO h2 a0 5).bind fun _ => cI (F_X5_await E a0 (2 : Int32) (0 : Int32) h2) fun v79 h79 =>
    rtI v79 h79
  else
  if v6 = (13 : Int32) then
    rtI (2 : Int32) h2
  else
  if v6 = (14 : Int32) then
    (isO h2 a0 5).bind fun _ => cI (F_X5_await E a0 (4 : Int32) (3 : Int32) h2) fun v86 h86 =>
    rtI v86 h86
  else
  if v6 = (15 : Int32) then
    (isO h2 a0 5).bind fun _ => cI (F_X5_await E a0 (3 : Int32) (4 : Int32) h2) fun v93 h93 =>
    rtI v93 h93
  else
  if v6 = (16 : Int32) then
    (isO h2 a0 5).bind fun _ => cI (F_X5_await E a0 (4 : Int32) (5 : Int32) h2) fun v100 h100 =>
    rtI v100 h100
  else
  if v6 = (17 : Int32) then
    (isO h2 a0 5).bind fun _ => cI (F_X5_await E a0 (4 : Int32) (6 : Int32) h2) fun v108 h108 =>
    rtI v108 h108
  else
  if v6 = (18 : Int32) then
    cI (F_X11_wordOf E (7 : Int32) (0 : Int32) (15 : Int32) h2) fun v118 h118 =>
    (isO h118 a0 5).bind fun _ => cI (F_X5_keep E a0 v118 (6 : Int32) h118) fun v123 h123 =>
    rtI v123 h123
  else
  if v6 = (19 : Int32) then
    cI (F_X11_wordOf E (8 : Int32) (0 : Int32) (15 : Int32) h2) fun v133 h133 =>
    (isO h133 a0 5).bind fun _ => cI (F_X5_keep E a0 v133 (6 : Int32) h133) fun v138 h138 =>
    rtI v138 h138
  else
  if v6 = (20 : Int32) then
    cI (F_X11_wordOf E (9 : Int32) (0 : Int32) (15 : Int32) h2) fun v148 h148 =>
    (isO h148 a0 5).bind fun _ => cI (F_X5_keep E a0 v148 (6 : Int32) h148) fun v153 h153 =>
    rtI v153 h153
  else
  if v6 = (21 : Int32) then
    cI (F_X11_wordOf E (10 : Int32) (0 : Int32) (15 : Int32) h2) fun v163 h163 =>
    (isO h163 a0 5).bind fun _ => cI (F_X5_keep E a0 v163 (6 : Int32) h163) fun v168 h168 =>
    rtI v168 h168
  else
  if v6 = (22 : Int32) then
    rtI (2 : Int32) h2
  else
  if v6 = (23 : Int32) then
    rtI (2 : Int32) h2
  else
  if v6 = (24 : Int32) then
    (gfI h2 a0 5 9).bind fun v174 =>
    (pf h2 a0 5 13 (.int v174)).bind fun h177 =>
    (isO h177 a0 5).bind fun _ => cI (F_X5_isBadNumber E a0 h177) fun v181 h181 =>
    if v181 = 0 then
      (isO h181 a0 5).bind fun _ => cI (F_X5_await E a0 (5 : Int32) (0 : Int32) h181) fun v194 h194 =>
      rtI v194 h194
    else
      rtI (3 : Int32) h181
  else
  rtI (2 : Int32) h2
def F_X5_takeFirst (E : Ev) (a0 : Nat) (h : Hp) : Rs :=
  (gfI h a0 5 8).bind fun v1 =>
  if ¬ v1 = (26 : Int32) then
    (isO h a0 5).bind fun _ => cI (F_X5_takeWord E a0 h) fun v12 h12 =>
    if ¬ v12 = 0 then
      rtI v12 h12
    else
      (gfI h12 a0 5 5).bind fun v21 =>
      if ¬ v21 = (10 : Int32) then
        rtI v12 h12
      else
        rtI (4 : Int32) h12
  else
    rtI (0 : Int32) h
def F_X5_takeMore (E : Ev) (a0 : Nat) (h : Hp) : Rs :=
  (gfI h a0 5 8).bind fun v1 =>
  if ¬ v1 = (25 : Int32) then
    (gfI h a0 5 8).bind fun v32 =>
    if ¬ v32 = (22 : Int32) then
      (gfI h a0 5 8).bind fun v68 =>
      if ¬ v68 = (23 : Int32) then
        rtI (2 : Int32) h
      else
        (gfI h a0 5 10).bind fun v77 =>
        if ¬ v77 = (7 : Int32) then
          rtI (2 : Int32) h
        else
          (gfI h a0 5 12).bind fun v88 =>
          (isO h a0 5).bind fun _ => cI (F_X5_await E a0 (4 : Int32) v88 h) fun v91 h91 =>
          rtI v91 h91
    else
      (gfI h a0 5 11).bind fun v41 =>
      if ¬ v41 = (3 : Int32) then
        (gfI h a0 5 11).bind fun v52 =>
        (pf h a0 5 11 (.int (v52 + (1 : Int32)))).bind fun h57 =>
        (isO h57 a0 5).bind fun _ => cI (F_X5_await E a0 (1 : Int32) (0 : Int32) h57) fun v63 h63 =>
        rtI v63 h63
      else
        rtI (4 : Int32) h
  else
    (gfI h a0 5 5).bind fun v11 =>
    (pf h a0 5 5 (.int (v11 + (1 : Int32)))).bind fun h16 =>
    (pf h16 a0 5 11 (.int (0 : Int32))).bind fun h21 =>
    (isO h21 a0 5).bind fun _ => cI (F_X5_await E a0 (0 : Int32) (0 : Int32) h21) fun v27 h27 =>
    rtI v27 h27
def J_X5_takeSide_37 (E : Ev)  (y0 : Nat) (t0 : Nat) (t1 : Int32) (h : Hp) : Rs :=
  (pf h t0 5 12 (.int t1)).bind fun h37 =>
  (gfI h37 y0 5 12).bind fun v42 =>
  (gfI h37 y0 5 13).bind fun v46 =>
  cI (F_X11_wordOf E v42 v46 (15 : Int32) h37) fun v51 h51 =>
  (isO h51 y0 5).bind fun _ => cI (F_X5_keep E y0 v51 (7 : Int32) h51) fun v56 h56 =>
  rtI v56 h56
def J_X5_takeSide_20 (E : Ev)  (y0 : Nat) (h : Hp) : Rs :=
  (gfI h y0 5 8).bind fun v22 =>
  if ¬ v22 = (20 : Int32) then
    J_X5_takeSide_37 E y0 y0 (12 : Int32) h
  else
    J_X5_takeSide_37 E y0 y0 (11 : Int32) h
def F_X5_takeSide (E : Ev) (a0 : Nat) (h : Hp) : Rs :=
  (gfI h a0 5 8).bind fun v1 =>
  if v1 = (20 : Int32) then
    J_X5_takeSide_20 E a0 h
  else
    (gfI h a0 5 8).bind fun v10 =>
    if v10 = (21 : Int32) then
      J_X5_takeSide_20 E a0 h
    else
      rtI (2 : Int32) h
def F_X5_take (E : Ev) (a0 : Nat) (h : Hp) : Rs :=
  (gfI h a0 5 10).bind fun v1 =>
  if v1 = (0 : Int32) then
    (isO h a0 5).bind fun _ => cI (F_X5_takeFirst E a0 h) fun v45 h45 =>
    rtI v45 h45
  else
  if v1 = (1 : Int32) then
    (isO h a0 5).bind fun _ => cI (F_X5_takeWord E a0 h) fun v50 h50 =>
    rtI v50 h50
  else
  if v1 = (2 : Int32) then
    (gfI h a0 5 8).bind fun v55 =>
    if ¬ v55 = (13 : Int32) then
      (isO h a0 5).bind fun _ => cI (F_X5_takeAmount E a0 (1 : Int32) h) fun v72 h72 =>
      rtI v72 h72
    else
      (isO h a0 5).bind fun _ => cI (F_X5_await E a0 (4 : Int32) (2 : Int32) h) fun v66 h66 =>
      rtI v66 h66
  else
  if v1 = (3 : Int32) then
    (isO h a0 5).bind fun _ => cI (F_X5_takeAmount E a0 (4 : Int32) h) fun v78 h78 =>
    rtI v78 h78
  else
  if v1 = (4 : Int32) then
    (gfI h a0 5 8).bind fun v83 =>
    if (12 : Int32) ≤ v83 then
      rtI (2 : Int32) h
    else
      (gfI h a0 5 12).bind fun v93 =>
      (gfI h a0 5 13).bind fun v97 =>
      (gfI h a0 5 8).bind fun v101 =>
      cI (F_X11_wordOf E v93 v97 v101 h) fun v104 h104 =>
      (isO h104 a0 5).bind fun _ => cI (F_X5_keep E a0 v104 (6 : Int32) h104) fun v109 h109 =>
      rtI v109 h109
  else
  if v1 = (5 : Int32) then
    (isO h a0 5).bind fun _ => cI (F_X5_takeSide E a0 h) fun v118 h118 =>
    rtI v118 h118
  else
  (isO h a0 5).bind fun _ => cI (F_X5_takeMore E a0 h) fun v123 h123 =>
  rtI v123 h123
def L_X5_read_38 (E : Ev) (K84 : Int32 → Hp → Rs) (y0 : Nat) (y1 : Int32) : Nat → Int32 → Int32 → Hp → Rs
  | 0, _, _, _ => none
  | g + 1, y2, y3, h =>
    if y1 < y3 then
      K84 y2 h
    else
      if ¬ y2 = 0 then
        K84 y2 h
      else
        (gfI h y0 5 8).bind fun v48 =>
        if v48 = (26 : Int32) then
          K84 y2 h
        else
          (isO h y0 5).bind fun _ => cV (F_X5_scan E y0 y1 h) fun h58 =>
          (gfI h58 y0 5 8).bind fun v62 =>
          if ¬ v62 = (-1 : Int32) then
            (isO h58 y0 5).bind fun _ => cI (F_X5_take E y0 h58) fun v74 h74 =>
            L_X5_read_38 E K84 y0 y1 g v74 (y3 + (1 : Int32)) h74
          else
            L_X5_read_38 E K84 y0 y1 g (1 : Int32) (y3 + (1 : Int32)) h58
def J_X5_read_84 (E : Ev)  (y0 : Nat) (y2 : Int32) (h : Hp) : Rs :=
  (pf h y0 5 1 (.int (0 : Int32))).bind fun h86 =>
  (pf h86 y0 5 2 (.int y2)).bind fun h91 =>
  if ¬ y2 = 0 then
    (gfI h91 y0 5 7).bind fun v104 =>
    (pf h91 y0 5 3 (.int v104)).bind fun h107 =>
    rtI y2 h107
  else
    (pf h91 y0 5 3 (.int (-1 : Int32))).bind fun h107 =>
    rtI y2 h107
def F_X5_read (E : Ev) (a0 : Nat) (x1 : Int32) (h : Hp) : Rs :=
  (gfR h a0 5 4).bind fun v1 =>
  cV (F_J7_fill_53178 E v1 (0 : Int32) h) fun h5 =>
  (pf h5 a0 5 5 (.int (0 : Int32))).bind fun h10 =>
  (pf h10 a0 5 6 (.int (0 : Int32))).bind fun h15 =>
  (pf h15 a0 5 10 (.int (0 : Int32))).bind fun h20 =>
  (pf h20 a0 5 11 (.int (0 : Int32))).bind fun h25 =>
  (pf h25 a0 5 8 (.int (25 : Int32))).bind fun h31 =>
  L_X5_read_38 E
    (fun w1 h3 =>
      J_X5_read_84 E a0 w1 h3)
    a0 x1 E.2.2.1 (0 : Int32) (0 : Int32) h31
def F_X6_size (E : Ev) (a0 : Nat) (h : Hp) : Rs :=
  (gfR h a0 6 0).bind fun v1 =>
  (gaL E h v1 (0 : Int32)).bind fun v5 =>
  cI (F_J13_bitCount_95d88 E v5 h) fun v6 h6 =>
  (gfR h6 a0 6 0).bind fun v10 =>
  (gaL E h6 v10 (1 : Int32)).bind fun v14 =>
  cI (F_J13_bitCount_95d88 E v14 h6) fun v15 h15 =>
  (gfR h15 a0 6 0).bind fun v20 =>
  (gaL E h15 v20 (2 : Int32)).bind fun v24 =>
  cI (F_J13_bitCount_95d88 E v24 h15) fun v25 h25 =>
  (gfR h25 a0 6 0).bind fun v30 =>
  (gaL E h25 v30 (3 : Int32)).bind fun v34 =>
  cI (F_J13_bitCount_95d88 E v34 h25) fun v35 h35 =>
  rtI (((v6 + v15) + v25) + v35) h35
def L_X6_nth_19 (E : Ev) (K70 : Int32 → Hp → Rs) (y0 : Nat) (y1 : Int32) (y3 : Int32) : Nat → Int32 → Int32 → Hp → Rs
  | 0, _, _, _ => none
  | g + 1, y2, y4, h =>
    if (2 : Int32) ≤ y4 then
      K70 y2 h
    else
      (gfR h y0 6 0).bind fun v26 =>
      (gaL E h v26 (((2 : Int32) * y4) + (y3 >>> ((6 : Int32) &&& 31)))).bind fun v38 =>
      cI (F_X11_isIn E v38 (y3 &&& (63 : Int32)) h) fun v43 h43 =>
      if v43 = 0 then
        L_X6_nth_19 E K70 y0 y1 y3 g y2 (y4 + (1 : Int32)) h43
      else
        if ¬ y2 = y1 then
          L_X6_nth_19 E K70 y0 y1 y3 g (y2 + (1 : Int32)) (y4 + (1 : Int32)) h43
        else
          rtI (((2 : Int32) * y3) + y4) h43
def L_X6_nth_10 (E : Ev)  (y0 : Nat) (y1 : Int32) : Nat → Int32 → Int32 → Hp → Rs
  | 0, _, _, _ => none
  | g + 1, y2, y3, h =>
    if (120 : Int32) ≤ y3 then
      rtI (-1 : Int32) h
    else
      L_X6_nth_19 E
        (fun w1 h3 =>
          L_X6_nth_10 E y0 y1 g w1 (y3 + (1 : Int32)) h3)
        y0 y1 y3 E.2.2.1 y2 (0 : Int32) h
def F_X6_nth (E : Ev) (a0 : Nat) (x1 : Int32) (h : Hp) : Rs :=
  if 0 ≤ x1 then
    L_X6_nth_10 E a0 x1 E.2.2.1 (0 : Int32) (0 : Int32) h
  else
    rtI (-1 : Int32) h
def F_X8_lay (E : Ev) (a0 : Nat) (x1 : Int32) (x2 : Int32) (h : Hp) : Rs :=
  (pfZ h a0 8 0 (0 : Int32)).bind fun h2 =>
  (pf h2 a0 8 1 (.int x1)).bind fun h7 =>
  (pf h7 a0 8 2 (.int x2)).bind fun h12 =>
  (gfR h12 a0 8 3).bind fun v16 =>
  cV (F_J7_fill_d0a16 E v16 (0 : Int64) h12) fun h20 =>
  rtV h20
def F_X8_cut (E : Ev) (a0 : Nat) (x1 : Int64) (h : Hp) : Rs :=
  (gfI h a0 8 1).bind fun v1 =>
  if v1 = (0 : Int32) then
    rtL ((((((x1).toInt32)).toInt8.toInt32)).toInt64) h
  else
  if v1 = (1 : Int32) then
    rtL ((((((x1).toInt32)).toInt16.toInt32)).toInt64) h
  else
  if v1 = (2 : Int32) then
    rtL ((((x1).toInt32)).toInt64) h
  else
  rtL x1 h
def L_X8_isSayable_13 (E : Ev)  (y0 : Nat) : Nat → Int32 → Hp → Rs
  | 0, _, _ => none
  | g + 1, y1, h =>
    (gfI h y0 8 2).bind fun v15 =>
    if v15 ≤ y1 then
      rtZ (1 : Int32) h
    else
      (gfR h y0 8 3).bind fun v22 =>
      (gaL E h v22 y1).bind fun v26 =>
      if v26 < (0 : Int64) then
        rtZ (0 : Int32) h
      else
        (gfR h y0 8 3).bind fun v33 =>
        (gaL E h v33 y1).bind fun v37 =>
        if v37 < (31 : Int64) then
          L_X8_isSayable_13 E y0 g (y1 + (1 : Int32)) h
        else
          rtZ (0 : Int32) h
def F_X8_isSayable (E : Ev) (a0 : Nat) (h : Hp) : Rs :=
  (gfI h a0 8 2).bind fun v1 =>
  if v1 ≤ (10 : Int32) then
    L_X8_isSayable_13 E a0 E.2.2.1 (0 : Int32) h
  else
    rtZ (0 : Int32) h
def L_X9_learnGround_2 (E : Ev)  (y0 : Nat) (y1 : Int32) : Nat → Int32 → Hp → Rs
  | 0, _, _ => none
  | g + 1, y2, h =>
    if (12 : Int32) ≤ y2 then
      rtV h
    else
      (gfR h y0 9 1).bind fun v9 =>
      (isO h v9 2).bind fun _ => cI (F_X2_kindsOf E v9 y1 y2 h) fun v14 h14 =>
      (gfR h14 y0 9 4).bind fun v19 =>
      (paI E h14 v19 ((y1 * (12 : Int32)) + y2) v14).bind fun h29 =>
      (gfR h29 y0 9 5).bind fun v31 =>
      (gfR h29 y0 9 0).bind fun v41 =>
      (isO h29 v41 10).bind fun _ => cL (F_X10_placesWith E v41 v14 h29) fun v45 h45 =>
      (paL E h45 v31 ((y1 * (12 : Int32)) + y2) v45).bind fun h48 =>
      L_X9_learnGround_2 E y0 y1 g (y2 + (1 : Int32)) h48
def F_X9_learnGround (E : Ev) (a0 : Nat) (x1 : Int32) (h : Hp) : Rs :=
  L_X9_learnGround_2 E a0 x1 E.2.2.1 (0 : Int32) h
def F_X9_suppose (E : Ev) (a0 : Nat) (x1 : Int32) (x2 : Int32) (h : Hp) : Rs :=
  (gfR h a0 9 1).bind fun v2 =>
  (gfR h v2 2 4).bind fun v5 =>
  (gfI h a0 9 6).bind fun v9 =>
  (gaI E 0 h v5 v9).bind fun v12 =>
  (gfR h a0 9 4).bind fun v16 =>
  (gfI h a0 9 6).bind fun v20 =>
  (paI E h v16 ((v20 * (12 : Int32)) + x1) (x2 &&& v12)).bind fun h29 =>
  (gfR h29 a0 9 5).bind fun v31 =>
  (gfI h29 a0 9 6).bind fun v35 =>
  (gfR h29 a0 9 0).bind fun v44 =>
  (isO h29 v44 10).bind fun _ => cL (F_X10_placesWith E v44 (x2 &&& v12) h29) fun v48 h48 =>
  (paL E h48 v31 ((v35 * (12 : Int32)) + x1) v48).bind fun h51 =>
  rtV h51
def L_X9_follow_58 (E : Ev) (K113 : Hp → Rs) (y0 : Nat) (y5 : Int32) (y6 : Int32) : Nat → Int32 → Hp → Rs
  | 0, _, _ => none
  | g + 1, y7, h =>
    if (4 : Int32) ≤ y7 then
      K113 h
    else
      (gfR h y0 9 2).bind fun v65 =>
      (gfR h v65 0 4).bind fun v68 =>
      (gaI E 0 h v68 (y5 + y7)).bind fun v76 =>
      if v76 = 0 then
        K113 h
      else
        (gfR h y0 9 2).bind fun v82 =>
        (gfR h v82 0 4).bind fun v85 =>
        (gaI E 0 h v85 (y5 + y7)).bind fun v93 =>
        (gfR h y0 9 9).bind fun v95 =>
        (gfR h y0 9 8).bind fun v101 =>
        (isO h y0 9).bind fun _ => cV (F_X9_lead E y0 v93 v95 y6 v101 h) fun h104 =>
        L_X9_follow_58 E K113 y0 y5 y6 g (y7 + (1 : Int32)) h104
def J_X9_follow_113 (E : Ev) (K18 : Int32 → Hp → Rs) (y0 : Nat) (y1 : Int32) (y3 : Int32) (y4 : Int32) (h : Hp) : Rs :=
  (gfR h y0 9 7).bind fun v114 =>
  (gfR h y0 9 8).bind fun v121 =>
  (pf h y0 9 7 (.ref v121)).bind fun h124 =>
  (pf h124 y0 9 8 (.ref v114)).bind fun h130 =>
  (gfR h130 y0 9 7).bind fun v134 =>
  (isO h130 v134 6).bind fun _ => cI (F_X6_isEmpty E v134 h130) fun v137 h137 =>
  if v137 = 0 then
    K18 (y4 + (1 : Int32)) h137
  else
    rtI y4 h137
def L_X9_follow_18 (E : Ev)  (y0 : Nat) (y1 : Int32) (y3 : Int32) : Nat → Int32 → Hp → Rs
  | 0, _, _ => none
  | g + 1, y4, h =>
    if y3 ≤ y4 then
      rtI y3 h
    else
      lt ((y1 * (40 : Int32)) + (y4 * (4 : Int32))) fun u1 =>
      (gfR h y0 9 8).bind fun v36 =>
      (isO h v36 6).bind fun _ => cV (F_X6_clear E v36 h) fun h39 =>
      (gfR h39 y0 9 7).bind fun v43 =>
      (gfR h39 y0 9 9).bind fun v47 =>
      (isO h39 v43 6).bind fun _ => cI (F_X6_list E v43 v47 h39) fun v50 h50 =>
      L_X9_follow_58 E
        (fun h3 =>
          J_X9_follow_113 E
            (fun w4 h8 =>
              L_X9_follow_18 E y0 y1 y3 g w4 h8)
            y0 y1 y3 y4 h3)
        y0 u1 v50 E.2.2.1 (0 : Int32) h50
def F_X9_follow (E : Ev) (a0 : Nat) (x1 : Int32) (x2 : Int32) (x3 : Int32) (h : Hp) : Rs :=
  (gfR h a0 9 7).bind fun v1 =>
  (isO h v1 6).bind fun _ => cV (F_X6_clear E v1 h) fun h4 =>
  (gfR h4 a0 9 7).bind fun v8 =>
  (isO h4 v8 6).bind fun _ => cV (F_X6_add E v8 x2 h4) fun h12 =>
  L_X9_follow_18 E a0 x1 x3 E.2.2.1 (0 : Int32) h12
def F_X9_lastPlaces (E : Ev) (a0 : Nat) (x1 : Int32) (x2 : Int32) (h : Hp) : Rs :=
  (gfR h a0 9 2).bind fun v4 =>
  (gfR h v4 0 3).bind fun v7 =>
  (gaI E 0 h v7 x1).bind fun v11 =>
  (isO h a0 9).bind fun _ => cI (F_X9_follow E a0 x1 x2 v11 h) fun v12 h12 =>
  (gfR h12 a0 9 0).bind fun v17 =>
  (gfR h12 a0 9 7).bind fun v21 =>
  (isO h12 v17 10).bind fun _ => cL (F_X10_placesOf E v17 v21 h12) fun v24 h24 =>
  rtL v24 h24
def F_X9_getsThere (E : Ev) (a0 : Nat) (x1 : Int32) (x2 : Int32) (h : Hp) : Rs :=
  (gfR h a0 9 2).bind fun v4 =>
  (gfR h v4 0 3).bind fun v7 =>
  (gaI E 0 h v7 x1).bind fun v11 =>
  (isO h a0 9).bind fun _ => cI (F_X9_follow E a0 x1 x2 v11 h) fun v12 h12 =>
  (gfR h12 a0 9 0).bind fun v17 =>
  (gfR h12 a0 9 7).bind fun v21 =>
  (isO h12 v17 10).bind fun _ => cL (F_X10_placesOf E v17 v21 h12) fun v24 h24 =>
  (gfR h24 a0 9 2).bind fun v29 =>
  (gfR h24 v29 0 1).bind fun v32 =>
  (gaI E 0 h24 v32 x1).bind fun v36 =>
  if ¬ v24 = ((1 : Int64) <<< ((v36).toInt64 &&& 63)) then
    rtZ (0 : Int32) h24
  else
    rtZ (1 : Int32) h24
def F_X10_forget (E : Ev) (a0 : Nat) (h : Hp) : Rs :=
  (pf h a0 10 1 (.int (0 : Int32))).bind fun h2 =>
  (pf h2 a0 10 2 (.int (-1 : Int32))).bind fun h7 =>
  (pfZ h7 a0 10 3 (1 : Int32)).bind fun h12 =>
  rtV h12
def F_X10_isPreparedFor (E : Ev) (a0 : Nat) (x1 : Int32) (h : Hp) : Rs :=
  (gfI h a0 10 1).bind fun v1 =>
  if x1 < v1 then
    rtZ (0 : Int32) h
  else
    (gfI h a0 10 2).bind fun v10 =>
    if v10 < x1 then
      rtZ (0 : Int32) h
    else
      rtZ (1 : Int32) h
def F_X10_addMark (E : Ev) (a0 : Nat) (x1 : Int32) (x2 : Int64) (x4 : Int32) (h : Hp) : Rs :=
  (gfR h a0 10 8).bind fun v1 =>
  (gaL E h v1 x1).bind fun v6 =>
  (paL E h v1 x1 (v6 ||| x2)).bind fun h9 =>
  if x4 = 0 then
    rtV h9
  else
    (gfR h9 a0 10 9).bind fun v16 =>
    (gaL E h9 v16 x1).bind fun v21 =>
    (paL E h9 v16 x1 (v21 ||| x2)).bind fun h24 =>
    rtV h24
def F_X10_isThere (E : Ev) (a0 : Nat) (x1 : Int32) (x2 : Int32) (x3 : Int32) (h : Hp) : Rs :=
  if x1 ≤ x3 then
    if x3 ≤ x2 then
      (gfI h a0 10 1).bind fun v44 =>
      (pf h a0 10 1 (.int (if v44 < x1 then x1 else v44))).bind fun h51 =>
      (gfI h51 a0 10 2).bind fun v56 =>
      (pf h51 a0 10 2 (.int (if x2 < v56 then x2 else v56))).bind fun h63 =>
      rtZ (1 : Int32) h63
    else
      (gfI h a0 10 1).bind fun v28 =>
      (pf h a0 10 1 (.int (if v28 < (x2 + (1 : Int32)) then (x2 + (1 : Int32)) else v28))).bind fun h37 =>
      rtZ (0 : Int32) h37
  else
    (gfI h a0 10 2).bind fun v7 =>
    (pf h a0 10 2 (.int (if (x1 - (1 : Int32)) < v7 then (x1 - (1 : Int32)) else v7))).bind fun h16 =>
    rtZ (0 : Int32) h16
def F_X10_addWay (E : Ev) (a0 : Nat) (x1 : Int32) (h : Hp) : Rs :=
  (gfR h a0 10 0).bind fun v1 =>
  (gfR h v1 3 8).bind fun v4 =>
  (gaI E 0 h v4 (((4 : Int32) * x1) + (1 : Int32))).bind fun v12 =>
  (gfR h a0 10 0).bind fun v15 =>
  (gfR h v15 3 8).bind fun v18 =>
  (gaI E 0 h v18 ((4 : Int32) * x1)).bind fun v24 =>
  (gfR h a0 10 7).bind fun v27 =>
  (gaL E h v27 v12).bind fun v32 =>
  (paL E h v27 v12 (v32 ||| ((1 : Int64) <<< ((v24).toInt64 &&& 63)))).bind fun h37 =>
  (gfR h37 a0 10 7).bind fun v39 =>
  (gaL E h37 v39 v24).bind fun v44 =>
  (paL E h37 v39 v24 (v44 ||| ((1 : Int64) <<< ((v12).toInt64 &&& 63)))).bind fun h49 =>
  lt (((2 : Int32) * x1) >>> ((6 : Int32) &&& 31)) fun u1 =>
  lt ((1 : Int64) <<< (((((2 : Int32) * x1) &&& (63 : Int32))).toInt64 &&& 63)) fun u2 =>
  lt (u2 <<< (((1 : Int32)).toInt64 &&& 63)) fun u3 =>
  (gfR h49 a0 10 6).bind fun v75 =>
  (gaL E h49 v75 (((2 : Int32) * v12) + u1)).bind fun v85 =>
  (paL E h49 v75 (((2 : Int32) * v12) + u1) (v85 ||| u2)).bind fun h89 =>
  (gfR h89 a0 10 6).bind fun v91 =>
  (gaL E h89 v91 (((2 : Int32) * v24) + u1)).bind fun v101 =>
  (paL E h89 v91 (((2 : Int32) * v24) + u1) (v101 ||| u3)).bind fun h105 =>
  (gfR h105 a0 10 0).bind fun v107 =>
  (gfR h105 v107 3 4).bind fun v110 =>
  (gaI E 0 h105 v110 x1).bind fun v114 =>
  if ¬ v114 = (2 : Int32) then
    rtV h105
  else
    (gfR h105 a0 10 5).bind fun v120 =>
    (gaL E h105 v120 u1).bind fun v126 =>
    (paL E h105 v120 u1 (v126 ||| (u2 ||| u3))).bind fun h133 =>
    rtV h133
def L_X10_layWays_36 (E : Ev) (K56 : Hp → Rs) (y0 : Nat) : Nat → Int32 → Hp → Rs
  | 0, _, _ => none
  | g + 1, y3, h =>
    if (240 : Int32) ≤ y3 then
      K56 h
    else
      (gfR h y0 10 10).bind fun v44 =>
      (paZ E h v44 y3 (0 : Int32)).bind fun h49 =>
      L_X10_layWays_36 E K56 y0 g (y3 + (1 : Int32)) h49
def L_X10_layWays_58 (E : Ev)  (y0 : Nat) (y1 : Int64) : Nat → Int32 → Hp → Rs
  | 0, _, _ => none
  | g + 1, y3, h =>
    (gfR h y0 10 0).bind fun v60 =>
    (gfI h v60 3 3).bind fun v63 =>
    if v63 ≤ y3 then
      rtV h
    else
      cI (F_X11_isIn E y1 y3 h) fun v71 h71 =>
      if v71 = 0 then
        L_X10_layWays_58 E y0 y1 g (y3 + (1 : Int32)) h71
      else
        (isO h71 y0 10).bind fun _ => cV (F_X10_addWay E y0 y3 h71) fun h79 =>
        L_X10_layWays_58 E y0 y1 g (y3 + (1 : Int32)) h79
def F_X10_layWays (E : Ev) (a0 : Nat) (x1 : Int64) (h : Hp) : Rs :=
  (pfZ h a0 10 3 (0 : Int32)).bind fun h2 =>
  (pf h2 a0 10 4 (.long x1)).bind fun h7 =>
  (gfR h7 a0 10 5).bind fun v11 =>
  cV (F_J7_fill_d0a16 E v11 (0 : Int64) h7) fun h15 =>
  (gfR h15 a0 10 6).bind fun v19 =>
  cV (F_J7_fill_d0a16 E v19 (0 : Int64) h15) fun h23 =>
  (gfR h23 a0 10 7).bind fun v27 =>
  cV (F_J7_fill_d0a16 E v27 (0 : Int64) h23) fun h31 =>
  L_X10_layWays_36 E
    (fun h2 =>
      L_X10_layWays_58 E a0 x1 E.2.2.1 (0 : Int32) h2)
    a0 E.2.2.1 (0 : Int32) h31
def L_X10_prepare_26 (E : Ev) (K79 : Int64 → Hp → Rs) (y0 : Nat) (y1 : Int32) : Nat → Int64 → Int32 → Hp → Rs
  | 0, _, _, _ => none
  | g + 1, y2, y4, h =>
    (gfR h y0 10 0).bind fun v29 =>
    (gfI h v29 3 3).bind fun v32 =>
    if v32 ≤ y4 then
      K79 y2 h
    else
      (gfR h y0 10 0).bind fun v40 =>
      (gfR h v40 3 6).bind fun v43 =>
      (gaI E 0 h v43 y4).bind fun v48 =>
      (gfR h y0 10 0).bind fun v50 =>
      (gfR h v50 3 7).bind fun v53 =>
      (gaI E 0 h v53 y4).bind fun v58 =>
      (isO h y0 10).bind fun _ => cI (F_X10_isThere E y0 v48 v58 y1 h) fun v60 h60 =>
      if v60 = 0 then
        L_X10_prepare_26 E K79 y0 y1 g y2 (y4 + (1 : Int32)) h60
      else
        lt (y2 ||| ((1 : Int64) <<< ((y4).toInt64 &&& 63))) fun u1 =>
        L_X10_prepare_26 E K79 y0 y1 g u1 (y4 + (1 : Int32)) h60
def L_X10_prepare_119 (E : Ev)  (y0 : Nat) (y1 : Int32) : Nat → Int32 → Hp → Rs
  | 0, _, _ => none
  | g + 1, y4, h =>
    (gfR h y0 10 0).bind fun v122 =>
    (gfI h v122 3 11).bind fun v125 =>
    if v125 ≤ y4 then
      rtV h
    else
      (gfR h y0 10 0).bind fun v133 =>
      (gfR h v133 3 15).bind fun v136 =>
      (gaI E 0 h v136 y4).bind fun v141 =>
      (gfR h y0 10 0).bind fun v143 =>
      (gfR h v143 3 16).bind fun v146 =>
      (gaI E 0 h v146 y4).bind fun v151 =>
      (isO h y0 10).bind fun _ => cI (F_X10_isThere E y0 v141 v151 y1 h) fun v153 h153 =>
      if v153 = 0 then
        L_X10_prepare_119 E y0 y1 g (y4 + (1 : Int32)) h153
      else
        (gfR h153 y0 10 0).bind fun v161 =>
        (gfR h153 v161 3 13).bind fun v164 =>
        (gaI E 0 h153 v164 y4).bind fun v169 =>
        (gfR h153 y0 10 0).bind fun v172 =>
        (gfR h153 v172 3 12).bind fun v175 =>
        (gaI E 0 h153 v175 y4).bind fun v180 =>
        (gfR h153 y0 10 0).bind fun v183 =>
        (gfR h153 v183 3 14).bind fun v186 =>
        (gaI E 2 h153 v186 y4).bind fun v191 =>
        (isO h153 y0 10).bind fun _ => cV (F_X10_addMark E y0 v169 ((1 : Int64) <<< ((v180).toInt64 &&& 63)) v191 h153) fun h192 =>
        L_X10_prepare_119 E y0 y1 g (y4 + (1 : Int32)) h192
def J_X10_prepare_100 (E : Ev)  (y0 : Nat) (y1 : Int32) (h : Hp) : Rs :=
  (gfR h y0 10 8).bind fun v101 =>
  cV (F_J7_fill_d0a16 E v101 (0 : Int64) h) fun h105 =>
  (gfR h105 y0 10 9).bind fun v109 =>
  cV (F_J7_fill_d0a16 E v109 (0 : Int64) h105) fun h113 =>
  L_X10_prepare_119 E y0 y1 E.2.2.1 (0 : Int32) h113
def F_X10_prepare (E : Ev) (a0 : Nat) (x1 : Int32) (h : Hp) : Rs :=
  (isO h a0 10).bind fun _ => cI (F_X10_isPreparedFor E a0 x1 h) fun v2 h2 =>
  if v2 = 0 then
    (pf h2 a0 10 1 (.int (0 : Int32))).bind fun h11 =>
    (pf h11 a0 10 2 (.int (200 : Int32))).bind fun h18 =>
    L_X10_prepare_26 E
      (fun w1 h3 =>
        (gfI h3 a0 10 3).bind fun v80 =>
        if ¬ v80 = 0 then
          (isO h3 a0 10).bind fun _ => cV (F_X10_layWays E a0 w1 h3) fun h97 =>
          J_X10_prepare_100 E a0 x1 h97
        else
          (gfL h3 a0 10 4).bind fun v88 =>
          if w1 = v88 then
            J_X10_prepare_100 E a0 x1 h3
          else
            (isO h3 a0 10).bind fun _ => cV (F_X10_layWays E a0 w1 h3) fun h97 =>
            J_X10_prepare_100 E a0 x1 h97)
      a0 x1 E.2.2.1 (0 : Int64) (0 : Int32) h18
  else
    rtV h2
def F_X11_place (E : Ev) (a0 : Nat) (x1 : Int32) (x2 : Int32) (h : Hp) : Rs :=
  if x1 < 0 then
    thr "java/lang/IllegalArgumentException" h
  else
    if (99 : Int32) < x1 then
      thr "java/lang/IllegalArgumentException" h
    else
      if x2 < 0 then
        thr "java/lang/IllegalArgumentException" h
      else
        if (99 : Int32) < x2 then
          thr "java/lang/IllegalArgumentException" h
        else
          (gfR h a0 11 0).bind fun v21 =>
          (isO h v21 3).bind fun _ => cI (F_X3_isTaken E v21 x1 x2 h) fun v26 h26 =>
          if v26 = 0 then
            (gfR h26 a0 11 0).bind fun v41 =>
            (isO h26 v41 3).bind fun _ => cI (F_X3_addPlace E v41 x1 x2 h26) fun v46 h46 =>
            rtI v46 h46
          else
            thr "java/lang/IllegalArgumentException" h26
def F_X11_needPlace (E : Ev) (a0 : Nat) (x1 : Int32) (h : Hp) : Rs :=
  if x1 < 0 then
    thr "java/util/NoSuchElementException" h
  else
    (gfR h a0 11 0).bind fun v6 =>
    (gfI h v6 3 0).bind fun v9 =>
    if x1 < v9 then
      rtV h
    else
      thr "java/util/NoSuchElementException" h
def F_X11_needYears (E : Ev) (a0 : Nat) (x1 : Int32) (x2 : Int32) (h : Hp) : Rs :=
  if x1 < 0 then
    thr "java/lang/IllegalArgumentException" h
  else
    if (200 : Int32) < x2 then
      thr "java/lang/IllegalArgumentException" h
    else
      if x1 ≤ x2 then
        rtV h
      else
        thr "java/lang/IllegalArgumentException" h
def F_X11_way (E : Ev) (a0 : Nat) (x1 : Int32) (x2 : Int32) (x3 : Int32) (x4 : Int32) (x5 : Int32) (x6 : Int32) (h : Hp) : Rs :=
  (isO h a0 11).bind fun _ => xV (F_X11_needPlace E a0 x1 h) thr fun h2 =>
  (isO h2 a0 11).bind fun _ => xV (F_X11_needPlace E a0 x2 h2) thr fun h7 =>
  if x1 = x2 then
    thr "java/lang/IllegalArgumentException" h7
  else
    if x3 < 0 then
      thr "java/lang/IllegalArgumentException" h7
    else
      if (3 : Int32) ≤ x3 then
        thr "java/lang/IllegalArgumentException" h7
      else
        if x4 < (1 : Int32) then
          thr "java/lang/IllegalArgumentException" h7
        else
          if x4 ≤ (99 : Int32) then
            (isO h7 a0 11).bind fun _ => xV (F_X11_needYears E a0 x5 x6 h7) thr fun h50 =>
            (gfR h50 a0 11 0).bind fun v54 =>
            (isO h50 v54 3).bind fun _ => cI (F_X3_isJoined E v54 x1 x2 x5 x6 h50) fun v63 h63 =>
            if v63 = 0 then
              (gfR h63 a0 11 3).bind fun v78 =>
              (isO h63 v78 10).bind fun _ => cV (F_X10_forget E v78 h63) fun h81 =>
              (gfR h81 a0 11 0).bind fun v85 =>
              (isO h81 v85 3).bind fun _ => cI (F_X3_addWay E v85 x1 x2 x3 x4 x5 x6 h81) fun v97 h97 =>
              rtI v97 h97
            else
              thr "java/lang/IllegalArgumentException" h63
          else
            thr "java/lang/IllegalArgumentException" h7
def F_X11_mark (E : Ev) (a0 : Nat) (x1 : Int32) (x2 : Int32) (x3 : Int32) (x4 : Int32) (x5 : Int32) (h : Hp) : Rs :=
  (isO h a0 11).bind fun _ => xV (F_X11_needPlace E a0 x1 h) thr fun h2 =>
  if x2 < 0 then
    thr "java/lang/IllegalArgumentException" h2
  else
    if x2 < (12 : Int32) then
      (isO h2 a0 11).bind fun _ => xV (F_X11_needYears E a0 x4 x5 h2) thr fun h28 =>
      (gfR h28 a0 11 3).bind fun v32 =>
      (isO h28 v32 10).bind fun _ => cV (F_X10_forget E v32 h28) fun h35 =>
      (gfR h35 a0 11 0).bind fun v39 =>
      (isO h35 v39 3).bind fun _ => cI (F_X3_addMark E v39 x1 x2 x3 x4 x5 h35) fun v49 h49 =>
      rtI v49 h49
    else
      thr "java/lang/IllegalArgumentException" h2
def J_X11_ends_85 (E : Ev)  (y0 : Nat) (y2 : Int32) (y3 : Int32) (y4 : Int32) (t0 : Nat) (h : Hp) : Rs :=
  (gaI E 0 h t0 y2).bind fun v90 =>
  if y3 < y4 then
    thr "java/lang/IllegalArgumentException" h
  else
    if y3 ≤ v90 then
      (paI E h t0 y2 y3).bind fun h117 =>
      (gfR h117 y0 11 3).bind fun v119 =>
      (isO h117 v119 10).bind fun _ => cV (F_X10_forget E v119 h117) fun h122 =>
      rtI v90 h122
    else
      thr "java/lang/IllegalArgumentException" h
def J_X11_ends_62 (E : Ev)  (y0 : Nat) (y1 : Int32) (y2 : Int32) (y3 : Int32) (t0 : Int32) (h : Hp) : Rs :=
  if y1 = 0 then
    (gfR h y0 11 0).bind fun v79 =>
    (gfR h v79 3 16).bind fun v82 =>
    J_X11_ends_85 E y0 y2 y3 t0 v82 h
  else
    (gfR h y0 11 0).bind fun v69 =>
    (gfR h v69 3 7).bind fun v72 =>
    J_X11_ends_85 E y0 y2 y3 t0 v72 h
def J_X11_ends_26 (E : Ev)  (y0 : Nat) (y1 : Int32) (y2 : Int32) (y3 : Int32) (t0 : Int32) (t1 : Int32) (h : Hp) : Rs :=
  if t0 < t1 then
    if y1 = 0 then
      (gfR h y0 11 0).bind fun v54 =>
      (gfR h v54 3 15).bind fun v57 =>
      (gaI E 0 h v57 y2).bind fun v61 =>
      J_X11_ends_62 E y0 y1 y2 y3 v61 h
    else
      (gfR h y0 11 0).bind fun v42 =>
      (gfR h v42 3 6).bind fun v45 =>
      (gaI E 0 h v45 y2).bind fun v49 =>
      J_X11_ends_62 E y0 y1 y2 y3 v49 h
  else
    thr "java/util/NoSuchElementException" h
def F_X11_ends (E : Ev) (a0 : Nat) (x1 : Int32) (x2 : Int32) (x3 : Int32) (h : Hp) : Rs :=
  if x2 < 0 then
    thr "java/util/NoSuchElementException" h
  else
    if x1 = 0 then
      (gfR h a0 11 0).bind fun v20 =>
      (gfI h v20 3 11).bind fun v23 =>
      J_X11_ends_26 E a0 x1 x2 x3 x2 v23 h
    else
      (gfR h a0 11 0).bind fun v10 =>
      (gfI h v10 3 3).bind fun v13 =>
      J_X11_ends_26 E a0 x1 x2 x3 x2 v13 h
def F_X11_needState (E : Ev) (a0 : Nat) (x1 : Int32) (h : Hp) : Rs :=
  if x1 < 0 then
    thr "java/util/NoSuchElementException" h
  else
    (gfR h a0 11 0).bind fun v7 =>
    (gfI h v7 3 3).bind fun v10 =>
    if x1 < ((4 : Int32) * v10) then
      rtV h
    else
      thr "java/util/NoSuchElementException" h
def F_X11_state (E : Ev) (a0 : Nat) (x1 : Int32) (x2 : Int32) (h : Hp) : Rs :=
  (isO h a0 11).bind fun _ => xV (F_X11_needState E a0 x1 h) thr fun h2 =>
  if x2 = (0 : Int32) then
    (gfR h2 a0 11 0).bind fun v33 =>
    (gfR h2 v33 3 8).bind fun v36 =>
    (gaI E 0 h2 v36 x1).bind fun v40 =>
    rtI v40 h2
  else
  if x2 = (1 : Int32) then
    if ¬ (x1 &&& (1 : Int32)) = 0 then
      rtI (0 : Int32) h2
    else
      rtI (1 : Int32) h2
  else
  if x2 = (2 : Int32) then
    rtI (x1 >>> ((2 : Int32) &&& 31)) h2
  else
  thr "java/lang/IllegalArgumentException" h2
def F_X11_needYear (E : Ev) (a0 : Nat) (x1 : Int32) (h : Hp) : Rs :=
  if x1 < 0 then
    thr "java/lang/IllegalArgumentException" h
  else
    if x1 ≤ (200 : Int32) then
      rtV h
    else
      thr "java/lang/IllegalArgumentException" h
def F_X11_out (E : Ev) (a0 : Nat) (x1 : Int32) (x2 : Int32) (x3 : Int32) (h : Hp) : Rs :=
  (isO h a0 11).bind fun _ => xV (F_X11_needState E a0 x1 h) thr fun h2 =>
  if x2 < 0 then
    thr "java/lang/IllegalArgumentException" h2
  else
    if x2 ≤ (2 : Int32) then
      (isO h2 a0 11).bind fun _ => xV (F_X11_needYear E a0 x3 h2) thr fun h24 =>
      (gfR h24 a0 11 3).bind fun v28 =>
      (isO h24 v28 10).bind fun _ => cV (F_X10_prepare E v28 x3 h24) fun h32 =>
      (gfR h32 a0 11 3).bind fun v36 =>
      (isO h32 v36 10).bind fun _ => cI (F_X10_look E v36 x1 h32) fun v40 h40 =>
      lt (v40 + ((2 : Int32) * x2)) fun u1 =>
      (gfR h40 a0 11 3).bind fun v50 =>
      (gfR h40 v50 10 11).bind fun v53 =>
      (gaL E h40 v53 u1).bind fun v58 =>
      cI (F_J13_bitCount_95d88 E v58 h40) fun v59 h59 =>
      (gfR h59 a0 11 3).bind fun v63 =>
      (gfR h59 v63 10 11).bind fun v66 =>
      (gaL E h59 v66 (u1 + (1 : Int32))).bind fun v73 =>
      cI (F_J13_bitCount_95d88 E v73 h59) fun v74 h74 =>
      rtI (v59 + v74) h74
    else
      thr "java/lang/IllegalArgumentException" h2
def F_X11_on (E : Ev) (a0 : Nat) (x1 : Int32) (x2 : Int32) (x3 : Int32) (h : Hp) : Rs :=
  (isO h a0 11).bind fun _ => xV (F_X11_needState E a0 x1 h) thr fun h2 =>
  (isO h2 a0 11).bind fun _ => xV (F_X11_needYear E a0 x2 h2) thr fun h7 =>
  (gfR h7 a0 11 3).bind fun v11 =>
  (isO h7 v11 10).bind fun _ => cV (F_X10_prepare E v11 x2 h7) fun h15 =>
  (gfR h15 a0 11 3).bind fun v19 =>
  (isO h15 v19 10).bind fun _ => cI (F_X10_look E v19 x1 h15) fun v23 h23 =>
  (gfR h23 a0 11 4).bind fun v32 =>
  (gfR h23 v32 9 7).bind fun v35 =>
  (isO h23 v35 6).bind fun _ => cV (F_X6_clear E v35 h23) fun h38 =>
  (gfR h38 a0 11 4).bind fun v42 =>
  (gfR h38 v42 9 7).bind fun v45 =>
  (gfR h38 a0 11 3).bind fun v49 =>
  (gfR h38 v49 10 11).bind fun v52 =>
  (gaL E h38 v52 (v23 + (6 : Int32))).bind fun v57 =>
  (gfR h38 a0 11 3).bind fun v59 =>
  (gfR h38 v59 10 11).bind fun v62 =>
  (gaL E h38 v62 ((v23 + (6 : Int32)) + (1 : Int32))).bind fun v69 =>
  (isO h38 v45 6).bind fun _ => cV (F_X6_addArrows E v45 v57 v69 h38) fun h70 =>
  if ¬ x3 = (-1 : Int32) then
    (gfR h70 a0 11 4).bind fun v92 =>
    (gfR h70 v92 9 7).bind fun v95 =>
    (isO h70 v95 6).bind fun _ => cI (F_X6_nth E v95 x3 h70) fun v99 h99 =>
    rtI v99 h99
  else
    (gfR h70 a0 11 4).bind fun v79 =>
    (gfR h70 v79 9 7).bind fun v82 =>
    (isO h70 v82 6).bind fun _ => cI (F_X6_size E v82 h70) fun v85 h85 =>
    rtI v85 h85
def F_X11_tongue (E : Ev) (a0 : Nat) (h : Hp) : Rs :=
  (gfR h a0 11 1).bind fun v1 =>
  (isO h v1 2).bind fun _ => cI (F_X2_addTongue E v1 h) fun v4 h4 =>
  rtI v4 h4
def F_X11_needKinds (E : Ev) (a0 : Nat) (x1 : Int32) (h : Hp) : Rs :=
  if x1 < 0 then
    thr "java/lang/IllegalArgumentException" h
  else
    if x1 ≤ (4095 : Int32) then
      rtV h
    else
      thr "java/lang/IllegalArgumentException" h
def F_X11_needName (E : Ev) (a0 : Nat) (x1 : Int32) (h : Hp) : Rs :=
  if x1 < 0 then
    thr "java/util/NoSuchElementException" h
  else
    if x1 < (12 : Int32) then
      rtV h
    else
      thr "java/util/NoSuchElementException" h
def F_X11_needTongue (E : Ev) (a0 : Nat) (x1 : Int32) (h : Hp) : Rs :=
  if x1 < 0 then
    thr "java/util/NoSuchElementException" h
  else
    (gfR h a0 11 1).bind fun v6 =>
    (gfI h v6 2 0).bind fun v9 =>
    if x1 < v9 then
      rtV h
    else
      thr "java/util/NoSuchElementException" h
def F_X11_means (E : Ev) (a0 : Nat) (x1 : Int32) (x2 : Int32) (x3 : Int32) (h : Hp) : Rs :=
  (isO h a0 11).bind fun _ => xV (F_X11_needTongue E a0 x1 h) thr fun h2 =>
  (isO h2 a0 11).bind fun _ => xV (F_X11_needName E a0 x2 h2) thr fun h7 =>
  (isO h7 a0 11).bind fun _ => xV (F_X11_needKinds E a0 x3 h7) thr fun h12 =>
  (gfR h12 a0 11 1).bind fun v16 =>
  (gfR h12 v16 2 1).bind fun v19 =>
  (gaI E 0 h12 v19 ((x1 * (12 : Int32)) + x2)).bind fun v28 =>
  (gfR h12 a0 11 1).bind fun v32 =>
  (gfR h12 v32 2 1).bind fun v35 =>
  (paI E h12 v35 ((x1 * (12 : Int32)) + x2) x3).bind fun h45 =>
  rtI v28 h45
def F_X11_walker (E : Ev) (a0 : Nat) (x1 : Int32) (x2 : Int32) (x3 : Int32) (x4 : Int32) (x5 : Int32) (h : Hp) : Rs :=
  (isO h a0 11).bind fun _ => xV (F_X11_needTongue E a0 x1 h) thr fun h2 =>
  (isO h2 a0 11).bind fun _ => xV (F_X11_needKinds E a0 x2 h2) thr fun h7 =>
  if x5 < (1 : Int32) then
    thr "java/lang/IllegalArgumentException" h7
  else
    if x5 ≤ (20 : Int32) then
      (gfR h7 a0 11 1).bind fun v32 =>
      (isO h7 v32 2).bind fun _ => cI (F_X2_addWalker E v32 x1 x2 x3 x4 x5 h7) fun v42 h42 =>
      rtI v42 h42
    else
      thr "java/lang/IllegalArgumentException" h7
def F_X11_needWalker (E : Ev) (a0 : Nat) (x1 : Int32) (h : Hp) : Rs :=
  if x1 < 0 then
    thr "java/util/NoSuchElementException" h
  else
    (gfR h a0 11 1).bind fun v6 =>
    (gfI h v6 2 2).bind fun v9 =>
    if x1 < v9 then
      rtV h
    else
      thr "java/util/NoSuchElementException" h
def F_X11_setOut (E : Ev) (a0 : Nat) (x1 : Int32) (x2 : Int32) (h : Hp) : Rs :=
  (gfR h a0 11 3).bind fun v1 =>
  (isO h v1 10).bind fun _ => cV (F_X10_prepare E v1 x2 h) fun h5 =>
  (gfR h5 a0 11 4).bind fun v9 =>
  (isO h5 v9 9).bind fun _ => cV (F_X9_learnGround E v9 x1 h5) fun h13 =>
  (gfR h13 a0 11 4).bind fun v17 =>
  (isO h13 v17 9).bind fun _ => cV (F_X9_become E v17 x1 h13) fun h21 =>
  rtV h21
def F_X11_stands (E : Ev) (a0 : Nat) (x1 : Int32) (x2 : Int32) (x3 : Int32) (x4 : Int32) (x5 : Int32) (h : Hp) : Rs :=
  (isO h a0 11).bind fun _ => xV (F_X11_needWalker E a0 x1 h) thr fun h2 =>
  (isO h2 a0 11).bind fun _ => xV (F_X11_needName E a0 x2 h2) thr fun h7 =>
  (isO h7 a0 11).bind fun _ => xV (F_X11_needPlace E a0 x3 h7) thr fun h12 =>
  (isO h12 a0 11).bind fun _ => xV (F_X11_needYear E a0 x4 h12) thr fun h18 =>
  (isO h18 a0 11).bind fun _ => cV (F_X11_setOut E a0 x1 x4 h18) fun h25 =>
  if x5 = 0 then
    (gfR h25 a0 11 4).bind fun v45 =>
    (isO h25 v45 9).bind fun _ => cL (F_X9_placesWith E v45 x2 h25) fun v49 h49 =>
    cI (F_X11_isIn E v49 x3 h49) fun v53 h53 =>
    rtZ v53 h53
  else
    (gfR h25 a0 11 4).bind fun v34 =>
    (isO h25 v34 9).bind fun _ => cL (F_X9_seenPlaces E v34 x2 h25) fun v38 h38 =>
    cI (F_X11_isIn E v38 x3 h38) fun v53 h53 =>
    rtZ v53 h53
def F_X11_needWalkers (E : Ev) (a0 : Nat) (x1 : Int32) (h : Hp) : Rs :=
  if x1 < 0 then
    thr "java/lang/IllegalArgumentException" h
  else
    (gfR h a0 11 1).bind fun v6 =>
    (gfI h v6 2 2).bind fun v9 =>
    if (x1 >>> (v9 &&& 31)) = 0 then
      rtV h
    else
      thr "java/lang/IllegalArgumentException" h
def F_X11_worth (E : Ev) (a0 : Nat) (x1 : Int32) (x2 : Int32) (x3 : Int32) (x4 : Int32) (h : Hp) : Rs :=
  if x1 < 0 then
    thr "java/util/NoSuchElementException" h
  else
    (gfR h a0 11 0).bind fun v6 =>
    (gfI h v6 3 11).bind fun v9 =>
    if x1 < v9 then
      (isO h a0 11).bind fun _ => xV (F_X11_needWalkers E a0 x2 h) thr fun h25 =>
      (isO h25 a0 11).bind fun _ => xV (F_X11_needYear E a0 x3 h25) thr fun h30 =>
      if x4 < 0 then
        thr "java/lang/IllegalArgumentException" h30
      else
        if x4 ≤ (1 : Int32) then
          (gfR h30 a0 11 0).bind fun v54 =>
          (gfR h30 v54 3 15).bind fun v57 =>
          (gaI E 0 h30 v57 x1).bind fun v61 =>
          if x3 < v61 then
            rtI (-1 : Int32) h30
          else
            (gfR h30 a0 11 0).bind fun v67 =>
            (gfR h30 v67 3 16).bind fun v70 =>
            (gaI E 0 h30 v70 x1).bind fun v74 =>
            if x3 ≤ v74 then
              (gfR h30 a0 11 0).bind fun v81 =>
              (gfR h30 v81 3 13).bind fun v84 =>
              (gaI E 0 h30 v84 x1).bind fun v88 =>
              if ¬ x4 = 0 then
                (gfR h30 a0 11 0).bind fun v110 =>
                (isO h30 v110 3).bind fun _ => cI (F_X3_marksOf E v110 v88 x3 h30) fun v116 h116 =>
                rtI (v116 - (1 : Int32)) h116
              else
                (gfR h30 a0 11 1).bind fun v97 =>
                (isO h30 v97 2).bind fun _ => cI (F_X2_howManyKnow E v97 v88 x2 h30) fun v103 h103 =>
                rtI v103 h103
            else
              rtI (-1 : Int32) h30
        else
          thr "java/lang/IllegalArgumentException" h30
    else
      thr "java/util/NoSuchElementException" h
def F_X11_feed (E : Ev) (a0 : Nat) (x1 : Int32) (x2 : Int32) (x3 : Int32) (x4 : Int32) (x5 : Int32) (h : Hp) : Rs :=
  (gfR h a0 11 7).bind fun v1 =>
  (gfI h v1 5 1).bind fun v4 =>
  if (v4 + (20 : Int32)) ≤ (200 : Int32) then
    (gfR h a0 11 7).bind fun v19 =>
    (isO h v19 5).bind fun _ => cV (F_X5_put E v19 x1 h) fun h23 =>
    (gfR h23 a0 11 7).bind fun v27 =>
    (isO h23 v27 5).bind fun _ => cV (F_X5_put E v27 x2 h23) fun h31 =>
    (gfR h31 a0 11 7).bind fun v35 =>
    (isO h31 v35 5).bind fun _ => cV (F_X5_put E v35 x3 h31) fun h39 =>
    (gfR h39 a0 11 7).bind fun v43 =>
    (isO h39 v43 5).bind fun _ => cV (F_X5_put E v43 x4 h39) fun h48 =>
    (gfR h48 a0 11 7).bind fun v52 =>
    (isO h48 v52 5).bind fun _ => cV (F_X5_put E v52 x5 h48) fun h57 =>
    (gfR h57 a0 11 7).bind fun v61 =>
    (gfI h57 v61 5 1).bind fun v64 =>
    rtI v64 h57
  else
    rtI (-1 : Int32) h
def F_X11_needTeller (E : Ev) (a0 : Nat) (x1 : Int32) (h : Hp) : Rs :=
  if x1 < 0 then
    thr "java/lang/IllegalArgumentException" h
  else
    if x1 < (10 : Int32) then
      rtV h
    else
      thr "java/lang/IllegalArgumentException" h
def F_X11_telling (E : Ev) (a0 : Nat) (x1 : Int32) (x2 : Int32) (x3 : Int32) (h : Hp) : Rs :=
  (isO h a0 11).bind fun _ => xV (F_X11_needPlace E a0 x2 h) thr fun h2 =>
  if x1 < 0 then
    thr "java/lang/IllegalArgumentException" h2
  else
    (gfR h2 a0 11 7).bind fun v11 =>
    (gfI h2 v11 5 1).bind fun v14 =>
    if x1 ≤ v14 then
      (isO h2 a0 11).bind fun _ => xV (F_X11_needTeller E a0 x3 h2) thr fun h30 =>
      (gfR h30 a0 11 2).bind fun v34 =>
      (gfI h30 v34 0 0).bind fun v37 =>
      if ¬ v37 = (12 : Int32) then
        (gfR h30 a0 11 7).bind fun v48 =>
        (isO h30 v48 5).bind fun _ => cI (F_X5_read E v48 x1 h30) fun v52 h52 =>
        if ¬ v52 = 0 then
          rtI ((-10 : Int32) - v52) h52
        else
          (gfR h52 a0 11 2).bind fun v63 =>
          (gfR h52 a0 11 7).bind fun v67 =>
          (gfR h52 v67 5 4).bind fun v70 =>
          (gfR h52 a0 11 7).bind fun v74 =>
          (gfI h52 v74 5 5).bind fun v77 =>
          (isO h52 v63 0).bind fun _ => cI (F_X0_addTelling E v63 v70 v77 x2 x3 h52) fun v82 h82 =>
          rtI v82 h82
      else
        rtI (-1 : Int32) h30
    else
      thr "java/lang/IllegalArgumentException" h2
def F_X11_fault (E : Ev) (a0 : Nat) (x1 : Int32) (h : Hp) : Rs :=
  if x1 = (0 : Int32) then
    (gfR h a0 11 7).bind fun v29 =>
    (gfI h v29 5 2).bind fun v32 =>
    rtI v32 h
  else
  if x1 = (1 : Int32) then
    (gfR h a0 11 7).bind fun v37 =>
    (gfI h v37 5 3).bind fun v40 =>
    rtI v40 h
  else
  rtI (-1 : Int32) h
def F_X11_needTelling (E : Ev) (a0 : Nat) (x1 : Int32) (h : Hp) : Rs :=
  if x1 < 0 then
    thr "java/util/NoSuchElementException" h
  else
    (gfR h a0 11 2).bind fun v6 =>
    (gfI h v6 0 0).bind fun v9 =>
    if x1 < v9 then
      rtV h
    else
      thr "java/util/NoSuchElementException" h
def F_X11_sayings (E : Ev) (a0 : Nat) (x1 : Int32) (h : Hp) : Rs :=
  (isO h a0 11).bind fun _ => xV (F_X11_needTelling E a0 x1 h) thr fun h2 =>
  (gfR h2 a0 11 2).bind fun v6 =>
  (gfR h2 v6 0 3).bind fun v9 =>
  (gaI E 0 h2 v9 x1).bind fun v13 =>
  rtI v13 h2
def F_X11_needTold (E : Ev) (a0 : Nat) (x1 : Int32) (x2 : Int32) (x3 : Int32) (x4 : Int32) (h : Hp) : Rs :=
  (isO h a0 11).bind fun _ => xV (F_X11_needTelling E a0 x1 h) thr fun h2 =>
  (isO h2 a0 11).bind fun _ => xV (F_X11_needWalker E a0 x2 h2) thr fun h7 =>
  (isO h7 a0 11).bind fun _ => xV (F_X11_needState E a0 x3 h7) thr fun h12 =>
  (isO h12 a0 11).bind fun _ => xV (F_X11_needYear E a0 x4 h12) thr fun h18 =>
  rtV h18
def F_X11_leads (E : Ev) (a0 : Nat) (x1 : Int32) (x2 : Int32) (x3 : Int32) (x4 : Int32) (x5 : Int32) (x6 : Int32) (h : Hp) : Rs :=
  (isO h a0 11).bind fun _ => xV (F_X11_needTold E a0 x1 x2 x3 x4 h) thr fun h6 =>
  if x5 < 0 then
    thr "java/lang/IllegalArgumentException" h6
  else
    (gfR h6 a0 11 2).bind fun v17 =>
    (gfR h6 v17 0 3).bind fun v20 =>
    (gaI E 0 h6 v20 x1).bind fun v24 =>
    if x5 ≤ v24 then
      (isO h6 a0 11).bind fun _ => cV (F_X11_setOut E a0 x2 x4 h6) fun h40 =>
      (gfR h40 a0 11 4).bind fun v44 =>
      (isO h40 v44 9).bind fun _ => cI (F_X9_follow E v44 x1 x3 x5 h40) fun v51 h51 =>
      if ¬ x6 = (-1 : Int32) then
        (gfR h51 a0 11 4).bind fun v75 =>
        (gfR h51 v75 9 7).bind fun v78 =>
        (isO h51 v78 6).bind fun _ => cI (F_X6_nth E v78 x6 h51) fun v83 h83 =>
        rtI v83 h83
      else
        (gfR h51 a0 11 4).bind fun v62 =>
        (gfR h51 v62 9 7).bind fun v65 =>
        (isO h51 v65 6).bind fun _ => cI (F_X6_size E v65 h51) fun v68 h68 =>
        rtI v68 h68
    else
      thr "java/lang/IllegalArgumentException" h6
def F_X11_holds (E : Ev) (a0 : Nat) (x1 : Int32) (x2 : Int32) (x3 : Int32) (x4 : Int32) (h : Hp) : Rs :=
  (isO h a0 11).bind fun _ => xV (F_X11_needTold E a0 x1 x2 x3 x4 h) thr fun h6 =>
  (isO h6 a0 11).bind fun _ => cV (F_X11_setOut E a0 x2 x4 h6) fun h13 =>
  (gfR h13 a0 11 4).bind fun v17 =>
  (gfR h13 a0 11 2).bind fun v23 =>
  (gfR h13 v23 0 3).bind fun v26 =>
  (gaI E 0 h13 v26 x1).bind fun v30 =>
  (isO h13 v17 9).bind fun _ => cI (F_X9_follow E v17 x1 x3 v30 h13) fun v31 h31 =>
  rtI v31 h31
def L_X11_nthOf_22 (E : Ev)  (y2 : Int32) : Nat → Int64 → Int32 → Hp → Rs
  | 0, _, _, _ => none
  | g + 1, y4, y6, h =>
    if y2 ≤ y6 then
      cI (F_X11_lowest E y4 h) fun v45 h45 =>
      rtI v45 h45
    else
      lt (y4 &&& (y4 - (1 : Int64))) fun u1 =>
      L_X11_nthOf_22 E y2 g u1 (y6 + (1 : Int32)) h
def F_X11_nthOf (E : Ev) (x0 : Int64) (x2 : Int32) (h : Hp) : Rs :=
  cI (F_J13_bitCount_95d88 E x0 h) fun v1 h1 =>
  if x2 < 0 then
    rtI (-1 : Int32) h1
  else
    if x2 < v1 then
      L_X11_nthOf_22 E x2 E.2.2.1 x0 (0 : Int32) h1
    else
      rtI (-1 : Int32) h1
def F_X11_end (E : Ev) (a0 : Nat) (x1 : Int32) (x2 : Int32) (x3 : Int32) (x4 : Int32) (x5 : Int32) (h : Hp) : Rs :=
  (isO h a0 11).bind fun _ => xV (F_X11_needTold E a0 x1 x2 x3 x4 h) thr fun h6 =>
  (isO h6 a0 11).bind fun _ => cV (F_X11_setOut E a0 x2 x4 h6) fun h13 =>
  (gfR h13 a0 11 4).bind fun v17 =>
  (isO h13 v17 9).bind fun _ => cL (F_X9_lastPlaces E v17 x1 x3 h13) fun v22 h22 =>
  if ¬ x5 = (-1 : Int32) then
    cI (F_X11_nthOf E v22 x5 h22) fun v45 h45 =>
    rtI v45 h45
  else
    cI (F_J13_bitCount_95d88 E v22 h22) fun v35 h35 =>
    rtI v35 h35
def F_X11_right (E : Ev) (a0 : Nat) (x1 : Int32) (x2 : Int32) (x3 : Int32) (x4 : Int32) (h : Hp) : Rs :=
  (isO h a0 11).bind fun _ => xV (F_X11_needTold E a0 x1 x2 x3 x4 h) thr fun h6 =>
  (isO h6 a0 11).bind fun _ => cV (F_X11_setOut E a0 x2 x4 h6) fun h13 =>
  (gfR h13 a0 11 4).bind fun v17 =>
  (isO h13 v17 9).bind fun _ => cI (F_X9_getsThere E v17 x1 x3 h13) fun v22 h22 =>
  rtZ v22 h22
def F_X11_odds (E : Ev) (a0 : Nat) (x1 : Int32) (x2 : Int32) (x3 : Int32) (x4 : Int32) (x5 : Int32) (h : Hp) : Rs :=
  (isO h a0 11).bind fun _ => xV (F_X11_needTelling E a0 x1 h) thr fun h2 =>
  (isO h2 a0 11).bind fun _ => xV (F_X11_needWalker E a0 x2 h2) thr fun h7 =>
  (isO h7 a0 11).bind fun _ => xV (F_X11_needState E a0 x3 h7) thr fun h12 =>
  (isO h12 a0 11).bind fun _ => xV (F_X11_needPlace E a0 x5 h12) thr fun h18 =>
  (isO h18 a0 11).bind fun _ => xV (F_X11_needYear E a0 x4 h18) thr fun h24 =>
  (isO h24 a0 11).bind fun _ => cV (F_X11_setOut E a0 x2 x4 h24) fun h31 =>
  (gfR h31 a0 11 5).bind fun v35 =>
  (isO h31 v35 4).bind fun _ => cV (F_X4_start E v35 x3 h31) fun h39 =>
  (gfR h39 a0 11 5).bind fun v43 =>
  (isO h39 v43 4).bind fun _ => cV (F_X4_goOn E v43 x1 (0 : Int32) h39) fun h48 =>
  (gfR h48 a0 11 5).bind fun v52 =>
  (isO h48 v52 4).bind fun _ => cI (F_X4_partsAt E v52 x5 h48) fun v57 h57 =>
  rtI v57 h57
def L_X11_parts_43 (E : Ev)  (y0 : Nat) (y5 : Int64) (y7 : Int64) : Nat → Int32 → Hp → Rs
  | 0, _, _ => none
  | g + 1, y9, h =>
    if (12 : Int32) ≤ y9 then
      rtI (-1 : Int32) h
    else
      (gfR h y0 11 4).bind fun v53 =>
      (isO h v53 9).bind fun _ => cL (F_X9_seenPlaces E v53 y9 h) fun v58 h58 =>
      if ¬ (y5 &&& v58) = y7 then
        L_X11_parts_43 E y0 y5 y7 g (y9 + (1 : Int32)) h58
      else
        rtI y9 h58
def F_X11_parts (E : Ev) (a0 : Nat) (x1 : Int32) (x2 : Int32) (x3 : Int32) (x4 : Int32) (h : Hp) : Rs :=
  (isO h a0 11).bind fun _ => xV (F_X11_needTold E a0 x1 x2 x3 x4 h) thr fun h6 =>
  (isO h6 a0 11).bind fun _ => cV (F_X11_setOut E a0 x2 x4 h6) fun h13 =>
  (gfR h13 a0 11 4).bind fun v17 =>
  (isO h13 v17 9).bind fun _ => cL (F_X9_lastPlaces E v17 x1 x3 h13) fun v22 h22 =>
  (gfR h22 a0 11 2).bind fun v29 =>
  (gfR h22 v29 0 1).bind fun v32 =>
  (gaI E 0 h22 v32 x1).bind fun v36 =>
  lt ((1 : Int64) <<< ((v36).toInt64 &&& 63)) fun u1 =>
  L_X11_parts_43 E a0 v22 u1 E.2.2.1 (0 : Int32) h22
def L_X11_hangs_34 (E : Ev)  (y0 : Nat) (y1 : Int32) (y3 : Int32) (y5 : Int32) : Nat → Int32 → Int32 → Hp → Rs
  | 0, _, _, _ => none
  | g + 1, y6, y7, h =>
    (gfR h y0 11 0).bind fun v38 =>
    (gfI h v38 3 3).bind fun v41 =>
    if ((4 : Int32) * v41) ≤ y7 then
      rtI y6 h
    else
      (gfR h y0 11 0).bind fun v49 =>
      (gfR h v49 3 8).bind fun v52 =>
      (gaI E 0 h v52 y7).bind fun v57 =>
      if ¬ v57 = y3 then
        L_X11_hangs_34 E y0 y1 y3 y5 g y6 (y7 + (2 : Int32)) h
      else
        (gfR h y0 11 3).bind fun v63 =>
        (gfL h v63 10 4).bind fun v66 =>
        cI (F_X11_isIn E v66 (y7 >>> ((2 : Int32) &&& 31)) h) fun v73 h73 =>
        if v73 = 0 then
          L_X11_hangs_34 E y0 y1 y3 y5 g y6 (y7 + (2 : Int32)) h73
        else
          (gfR h73 y0 11 4).bind fun v80 =>
          (isO h73 v80 9).bind fun _ => cI (F_X9_getsThere E v80 y1 y7 h73) fun v86 h86 =>
          if ¬ v86 = y5 then
            L_X11_hangs_34 E y0 y1 y3 y5 g y6 (y7 + (2 : Int32)) h86
          else
            L_X11_hangs_34 E y0 y1 y3 y5 g (y6 + (1 : Int32)) (y7 + (2 : Int32)) h86
def F_X11_hangs (E : Ev) (a0 : Nat) (x1 : Int32) (x2 : Int32) (x3 : Int32) (x4 : Int32) (x5 : Int32) (h : Hp) : Rs :=
  (isO h a0 11).bind fun _ => xV (F_X11_needTelling E a0 x1 h) thr fun h2 =>
  (isO h2 a0 11).bind fun _ => xV (F_X11_needWalker E a0 x2 h2) thr fun h7 =>
  (isO h7 a0 11).bind fun _ => xV (F_X11_needPlace E a0 x3 h7) thr fun h12 =>
  (isO h12 a0 11).bind fun _ => xV (F_X11_needYear E a0 x4 h12) thr fun h18 =>
  (isO h18 a0 11).bind fun _ => cV (F_X11_setOut E a0 x2 x4 h18) fun h25 =>
  L_X11_hangs_34 E a0 x1 x3 x5 E.2.2.1 (0 : Int32) (1 : Int32) h25
def J_X11_years_92 (E : Ev) (K49 : Int32 → Int32 → Int32 → Int32 → Int32 → Hp → Rs) (y0 : Nat) (y1 : Int32) (y2 : Int32) (y3 : Int32) (y5 : Int32) (y6 : Int32) (y7 : Int32) (y8 : Int32) (y9 : Int32) (h : Hp) : Rs :=
  if y8 = 0 then
    K49 y5 y6 y7 y8 (y9 + (1 : Int32)) h
  else
    if ¬ y6 = (-1 : Int32) then
      K49 (y5 + (1 : Int32)) y6 y9 y8 (y9 + (1 : Int32)) h
    else
      K49 (y5 + (1 : Int32)) y9 y9 y8 (y9 + (1 : Int32)) h
def J_X11_years_74 (E : Ev) (K49 : Int32 → Int32 → Int32 → Int32 → Int32 → Hp → Rs) (y0 : Nat) (y1 : Int32) (y2 : Int32) (y3 : Int32) (y5 : Int32) (y6 : Int32) (y7 : Int32) (y9 : Int32) (h : Hp) : Rs :=
  (isO h y0 11).bind fun _ => cV (F_X11_setOut E y0 y2 y9 h) fun h78 =>
  (gfR h78 y0 11 4).bind fun v82 =>
  (isO h78 v82 9).bind fun _ => cI (F_X9_getsThere E v82 y1 y3 h78) fun v87 h87 =>
  J_X11_years_92 E K49 y0 y1 y2 y3 y5 y6 y7 v87 y9 h87
def L_X11_years_49 (E : Ev) (K125 : Int32 → Int32 → Int32 → Hp → Rs) (y0 : Nat) (y1 : Int32) (y2 : Int32) (y3 : Int32) : Nat → Int32 → Int32 → Int32 → Int32 → Int32 → Hp → Rs
  | 0, _, _, _, _, _, _ => none
  | g + 1, y5, y6, y7, y8, y9, h =>
    if (200 : Int32) < y9 then
      K125 y5 y6 y7 h
    else
      if y9 = 0 then
        J_X11_years_74 E
          (fun w1 w2 w3 w4 w5 h6 =>
            L_X11_years_49 E K125 y0 y1 y2 y3 g w1 w2 w3 w4 w5 h6)
          y0 y1 y2 y3 y5 y6 y7 y9 h
      else
        (gfR h y0 11 3).bind fun v63 =>
        (isO h v63 10).bind fun _ => cI (F_X10_isPreparedFor E v63 y9 h) fun v68 h68 =>
        if ¬ v68 = 0 then
          J_X11_years_92 E
            (fun w7 w8 w9 w10 w11 h12 =>
              L_X11_years_49 E K125 y0 y1 y2 y3 g w7 w8 w9 w10 w11 h12)
            y0 y1 y2 y3 y5 y6 y7 y8 y9 h68
        else
          J_X11_years_74 E
            (fun w13 w14 w15 w16 w17 h18 =>
              L_X11_years_49 E K125 y0 y1 y2 y3 g w13 w14 w15 w16 w17 h18)
            y0 y1 y2 y3 y5 y6 y7 y9 h68
def F_X11_years (E : Ev) (a0 : Nat) (x1 : Int32) (x2 : Int32) (x3 : Int32) (x4 : Int32) (h : Hp) : Rs :=
  (isO h a0 11).bind fun _ => xV (F_X11_needTelling E a0 x1 h) thr fun h2 =>
  (isO h2 a0 11).bind fun _ => xV (F_X11_needWalker E a0 x2 h2) thr fun h7 =>
  (isO h7 a0 11).bind fun _ => xV (F_X11_needState E a0 x3 h7) thr fun h12 =>
  if x4 < 0 then
    thr "java/lang/IllegalArgumentException" h12
  else
    if x4 ≤ (2 : Int32) then
      L_X11_years_49 E
        (fun w1 w2 w3 h6 =>
          if ¬ x4 = 0 then
            if ¬ x4 = (1 : Int32) then
              rtI w3 h6
            else
              rtI w2 h6
          else
            rtI w1 h6)
        a0 x1 x2 x3 E.2.2.1 (0 : Int32) (-1 : Int32) (-1 : Int32) (0 : Int32) (0 : Int32) h12
    else
      thr "java/lang/IllegalArgumentException" h12
def F_X11_two (E : Ev) (a0 : Nat) (x1 : Int32) (x2 : Int32) (x3 : Int32) (x4 : Int32) (x5 : Int32) (x6 : Int32) (x7 : Int32) (h : Hp) : Rs :=
  (isO h a0 11).bind fun _ => xV (F_X11_needTelling E a0 x1 h) thr fun h2 =>
  (isO h2 a0 11).bind fun _ => xV (F_X11_needState E a0 x2 h2) thr fun h7 =>
  (isO h7 a0 11).bind fun _ => xV (F_X11_needTold E a0 x3 x5 x4 x6 h7) thr fun h18 =>
  if x7 < 0 then
    thr "java/lang/IllegalArgumentException" h18
  else
    if x7 ≤ (1 : Int32) then
      (isO h18 a0 11).bind fun _ => cV (F_X11_setOut E a0 x5 x6 h18) fun h45 =>
      if ¬ x7 = 0 then
        (gfR h45 a0 11 5).bind fun v78 =>
        (isO h45 v78 4).bind fun _ => cI (F_X4_meet E v78 x1 x2 x3 x4 h45) fun v86 h86 =>
        rtI v86 h86
      else
        (gfR h45 a0 11 4).bind fun v54 =>
        (isO h45 v54 9).bind fun _ => cL (F_X9_lastPlaces E v54 x1 x2 h45) fun v59 h59 =>
        (gfR h59 a0 11 4).bind fun v63 =>
        (isO h59 v63 9).bind fun _ => cL (F_X9_lastPlaces E v63 x3 x4 h59) fun v69 h69 =>
        cI (F_J13_bitCount_95d88 E (v59 &&& v69) h69) fun v73 h73 =>
        rtI v73 h73
    else
      thr "java/lang/IllegalArgumentException" h18
def F_X11_lossBehind (E : Ev) (a0 : Nat) (x1 : Int32) (x2 : Int32) (x3 : Int32) (x4 : Int32) (x5 : Int32) (h : Hp) : Rs :=
  (gfR h a0 11 4).bind fun v1 =>
  (isO h v1 9).bind fun _ => cV (F_X9_become E v1 x4 h) fun h6 =>
  (gfR h6 a0 11 4).bind fun v10 =>
  (isO h6 v10 9).bind fun _ => cI (F_X9_follow E v10 x2 x5 x1 h6) fun v17 h17 =>
  (gfR h17 a0 11 4).bind fun v22 =>
  (gfR h17 v22 9 7).bind fun v25 =>
  (isO h17 v25 6).bind fun _ => cI (F_X6_isEmpty E v25 h17) fun v28 h28 =>
  if v28 = 0 then
    (gfR h28 a0 11 4).bind fun v37 =>
    (isO h28 v37 9).bind fun _ => cV (F_X9_become E v37 x3 h28) fun h41 =>
    (gfR h41 a0 11 5).bind fun v45 =>
    (gfR h41 a0 11 4).bind fun v49 =>
    (gfR h41 v49 9 7).bind fun v52 =>
    (isO h41 v45 4).bind fun _ => cV (F_X4_spread E v45 v52 h41) fun h55 =>
    (gfR h55 a0 11 5).bind fun v59 =>
    (isO h55 v59 4).bind fun _ => cV (F_X4_goOn E v59 x2 x1 h55) fun h64 =>
    (gfR h64 a0 11 5).bind fun v71 =>
    (gfR h64 a0 11 2).bind fun v75 =>
    (gfR h64 v75 0 1).bind fun v78 =>
    (gaI E 0 h64 v78 x2).bind fun v82 =>
    (isO h64 v71 4).bind fun _ => cI (F_X4_partsAt E v71 v82 h64) fun v83 h83 =>
    rtI ((1000000 : Int32) - v83) h83
  else
    rtI (-1 : Int32) h28
def L_X11_ask_96 (E : Ev)  (y0 : Nat) (y1 : Int32) (y2 : Int32) (y3 : Int32) (y4 : Int32) (y6 : Int32) (y7 : Int32) : Nat → Int32 → Int32 → Int32 → Hp → Rs
  | 0, _, _, _, _ => none
  | g + 1, y8, y9, y10, h =>
    (gfR h y0 11 2).bind fun v99 =>
    (gfR h v99 0 3).bind fun v102 =>
    (gaI E 0 h v102 y1).bind fun v106 =>
    if v106 ≤ y10 then
      if y7 = 0 then
        rtI y9 h
      else
        rtI y8 h
    else
      (isO h y0 11).bind fun _ => cI (F_X11_lossBehind E y0 y10 y1 y2 y3 y4 h) fun v118 h118 =>
      if v118 = (-1 : Int32) then
        L_X11_ask_96 E y0 y1 y2 y3 y4 y6 y7 g y8 y9 (y10 + (1 : Int32)) h118
      else
        if y8 ≤ (v118 + y6) then
          L_X11_ask_96 E y0 y1 y2 y3 y4 y6 y7 g y8 y9 (y10 + (1 : Int32)) h118
        else
          L_X11_ask_96 E y0 y1 y2 y3 y4 y6 y7 g (v118 + y6) y10 (y10 + (1 : Int32)) h118
def F_X11_ask (E : Ev) (a0 : Nat) (x1 : Int32) (x2 : Int32) (x3 : Int32) (x4 : Int32) (x5 : Int32) (x6 : Int32) (x7 : Int32) (h : Hp) : Rs :=
  (isO h a0 11).bind fun _ => xV (F_X11_needWalker E a0 x3 h) thr fun h2 =>
  (isO h2 a0 11).bind fun _ => xV (F_X11_needTold E a0 x1 x2 x4 x5 h2) thr fun h12 =>
  if x6 < 0 then
    thr "java/lang/IllegalArgumentException" h12
  else
    if x6 ≤ (1000000 : Int32) then
      (isO h12 a0 11).bind fun _ => cV (F_X11_setOut E a0 x3 x5 h12) fun h40 =>
      (isO h40 a0 11).bind fun _ => cV (F_X11_setOut E a0 x2 x5 h40) fun h47 =>
      (gfR h47 a0 11 5).bind fun v51 =>
      (isO h47 v51 4).bind fun _ => cV (F_X4_start E v51 x4 h47) fun h56 =>
      (gfR h56 a0 11 5).bind fun v60 =>
      (isO h56 v60 4).bind fun _ => cV (F_X4_goOn E v60 x1 (0 : Int32) h56) fun h65 =>
      (gfR h65 a0 11 5).bind fun v72 =>
      (gfR h65 a0 11 2).bind fun v76 =>
      (gfR h65 v76 0 1).bind fun v79 =>
      (gaI E 0 h65 v79 x1).bind fun v83 =>
      (isO h65 v72 4).bind fun _ => cI (F_X4_partsAt E v72 v83 h65) fun v84 h84 =>
      lt ((1000000 : Int32) - v84) fun u1 =>
      L_X11_ask_96 E a0 x1 x2 x3 x4 x6 x7 E.2.2.1 u1 (0 : Int32) (1 : Int32) h84
    else
      thr "java/lang/IllegalArgumentException" h12
def L_X11_shortest_48 (E : Ev) (K84 : Hp → Rs) (y0 : Nat) (y1 : Int32) (y4 : Int32) : Nat → Int32 → Hp → Rs
  | 0, _, _ => none
  | g + 1, y7, h =>
    (gfR h y0 11 1).bind fun v51 =>
    (gfI h v51 2 2).bind fun v54 =>
    if v54 ≤ y7 then
      K84 h
    else
      cI (F_X11_isIn E ((y1).toInt64) y7 h) fun v64 h64 =>
      if v64 = 0 then
        L_X11_shortest_48 E K84 y0 y1 y4 g (y7 + (1 : Int32)) h64
      else
        (isO h64 y0 11).bind fun _ => cV (F_X11_setOut E y0 y7 y4 h64) fun h75 =>
        L_X11_shortest_48 E K84 y0 y1 y4 g (y7 + (1 : Int32)) h75
def L_X11_shortest_97 (E : Ev) (K117 : Int32 → Hp → Rs) (y0 : Nat) (y5 : Int32) : Nat → Int32 → Hp → Rs
  | 0, _, _ => none
  | g + 1, y7, h =>
    if y5 < y7 then
      rtI (-1 : Int32) h
    else
      (gfR h y0 11 6).bind fun v105 =>
      (isO h v105 1).bind fun _ => cI (F_X1_search E 4 v105 (0 : Int32) y7 h) fun v111 h111 =>
      if v111 = 0 then
        L_X11_shortest_97 E K117 y0 y5 g (y7 + (1 : Int32)) h111
      else
        K117 y7 h111
def F_X11_shortest (E : Ev) (a0 : Nat) (x1 : Int32) (x2 : Int32) (x3 : Int32) (x4 : Int32) (x5 : Int32) (x6 : Int32) (h : Hp) : Rs :=
  (isO h a0 11).bind fun _ => xV (F_X11_needState E a0 x2 h) thr fun h2 =>
  (isO h2 a0 11).bind fun _ => xV (F_X11_needPlace E a0 x3 h2) thr fun h7 =>
  (isO h7 a0 11).bind fun _ => xV (F_X11_needYear E a0 x4 h7) thr fun h13 =>
  (isO h13 a0 11).bind fun _ => xV (F_X11_needWalkers E a0 x1 h13) thr fun h18 =>
  if x1 = 0 then
    thr "java/lang/IllegalArgumentException" h18
  else
    if x5 < (1 : Int32) then
      thr "java/lang/IllegalArgumentException" h18
    else
      if x5 ≤ (3 : Int32) then
        L_X11_shortest_48 E
          (fun h2 =>
            (gfR h2 a0 11 6).bind fun v85 =>
            (isO h2 v85 1).bind fun _ => cV (F_X1_begin E v85 x1 x2 x3 h2) fun h91 =>
            L_X11_shortest_97 E
              (fun w3 h4 =>
                if ¬ x6 = (-1 : Int32) then
                  if x6 < 0 then
                    rtI (-1 : Int32) h4
                  else
                    if w3 ≤ x6 then
                      rtI (-1 : Int32) h4
                    else
                      (gfR h4 a0 11 6).bind fun v141 =>
                      (gfR h4 v141 1 3).bind fun v144 =>
                      (gaI E 0 h4 v144 x6).bind fun v149 =>
                      rtI v149 h4
                else
                  rtI w3 h4)
              a0 x5 E.2.2.1 (1 : Int32) h91)
          a0 x1 x4 E.2.2.1 (0 : Int32) h18
      else
        thr "java/lang/IllegalArgumentException" h18
def F_X11_went (E : Ev) (a0 : Nat) (x1 : Int32) (x2 : Int32) (x3 : Int32) (x4 : Int32) (x5 : Int32) (h : Hp) : Rs :=
  (isO h a0 11).bind fun _ => xV (F_X11_needPlace E a0 x5 h) thr fun h3 =>
  (isO h3 a0 11).bind fun _ => xV (F_X11_needTold E a0 x2 x1 x3 x4 h3) thr fun h12 =>
  (gfR h12 a0 11 2).bind fun v16 =>
  (isO h12 v16 0).bind fun _ => cI (F_X0_addRecord E v16 x1 x2 x3 x4 x5 h12) fun v26 h26 =>
  rtI v26 h26
def L_X11_kindsThatFit_17 (E : Ev)  (y0 : Nat) (y1 : Int32) (y2 : Int32) (y3 : Int32) (y4 : Int32) : Nat → Int32 → Int32 → Hp → Rs
  | 0, _, _, _ => none
  | g + 1, y5, y6, h =>
    if (12 : Int32) ≤ y6 then
      rtI y5 h
    else
      cI (F_X11_isIn E ((y3).toInt64) y6 h) fun v28 h28 =>
      if v28 = 0 then
        L_X11_kindsThatFit_17 E y0 y1 y2 y3 y4 g y5 (y6 + (1 : Int32)) h28
      else
        (gfR h28 y0 11 4).bind fun v35 =>
        (isO h28 v35 9).bind fun _ => cV (F_X9_suppose E v35 y2 ((1 : Int32) <<< (y6 &&& 31)) h28) fun h43 =>
        (gfR h43 y0 11 4).bind fun v47 =>
        (gfR h43 y0 11 2).bind fun v53 =>
        (gfR h43 v53 0 8).bind fun v56 =>
        (gaI E 0 h43 v56 y1).bind fun v60 =>
        (gfR h43 y0 11 2).bind fun v62 =>
        (gfR h43 v62 0 3).bind fun v65 =>
        (gaI E 0 h43 v65 y4).bind fun v70 =>
        (isO h43 v47 9).bind fun _ => cI (F_X9_follow E v47 y4 v60 v70 h43) fun v71 h71 =>
        (gfR h71 y0 11 3).bind fun v76 =>
        (gfR h71 y0 11 4).bind fun v80 =>
        (gfR h71 v80 9 7).bind fun v83 =>
        (isO h71 v76 10).bind fun _ => cL (F_X10_placesOf E v76 v83 h71) fun v86 h86 =>
        (gfR h86 y0 11 2).bind fun v90 =>
        (gfR h86 v90 0 10).bind fun v93 =>
        (gaI E 0 h86 v93 y1).bind fun v97 =>
        cI (F_X11_isIn E v86 v97 h86) fun v98 h98 =>
        if v98 = 0 then
          L_X11_kindsThatFit_17 E y0 y1 y2 y3 y4 g y5 (y6 + (1 : Int32)) h98
        else
          lt (y5 ||| ((1 : Int32) <<< (y6 &&& 31))) fun u1 =>
          L_X11_kindsThatFit_17 E y0 y1 y2 y3 y4 g u1 (y6 + (1 : Int32)) h98
def F_X11_kindsThatFit (E : Ev) (a0 : Nat) (x1 : Int32) (x2 : Int32) (x3 : Int32) (h : Hp) : Rs :=
  (gfR h a0 11 2).bind fun v1 =>
  (gfR h v1 0 7).bind fun v4 =>
  (gaI E 0 h v4 x1).bind fun v8 =>
  L_X11_kindsThatFit_17 E a0 x1 x2 x3 v8 E.2.2.1 (0 : Int32) (0 : Int32) h
def L_X11_learned_17 (E : Ev)  (y0 : Nat) (y1 : Int32) (y2 : Int32) : Nat → Int32 → Int32 → Hp → Rs
  | 0, _, _, _ => none
  | g + 1, y3, y4, h =>
    (gfR h y0 11 2).bind fun v20 =>
    (gfI h v20 0 5).bind fun v23 =>
    if v23 ≤ y4 then
      rtI y3 h
    else
      (gfR h y0 11 2).bind fun v30 =>
      (gfR h v30 0 6).bind fun v33 =>
      (gaI E 0 h v33 y4).bind fun v38 =>
      if ¬ v38 = y1 then
        L_X11_learned_17 E y0 y1 y2 g y3 (y4 + (1 : Int32)) h
      else
        (gfR h y0 11 2).bind fun v46 =>
        (gfR h v46 0 9).bind fun v49 =>
        (gaI E 0 h v49 y4).bind fun v54 =>
        (isO h y0 11).bind fun _ => cV (F_X11_setOut E y0 y1 v54 h) fun h55 =>
        (isO h55 y0 11).bind fun _ => cI (F_X11_kindsThatFit E y0 y4 y2 y3 h55) fun v63 h63 =>
        L_X11_learned_17 E y0 y1 y2 g v63 (y4 + (1 : Int32)) h63
def F_X11_learned (E : Ev) (a0 : Nat) (x1 : Int32) (x2 : Int32) (h : Hp) : Rs :=
  (isO h a0 11).bind fun _ => xV (F_X11_needWalker E a0 x1 h) thr fun h2 =>
  (isO h2 a0 11).bind fun _ => xV (F_X11_needName E a0 x2 h2) thr fun h7 =>
  L_X11_learned_17 E a0 x1 x2 E.2.2.1 (4095 : Int32) (0 : Int32) h7
def J_X11_teller_61 (E : Ev) (K9 : Int32 → Int32 → Int32 → Int32 → Hp → Rs) (y0 : Nat) (y4 : Int32) (y5 : Int32) (y6 : Int32) (h : Hp) : Rs :=
  K9 y4 y6 y5 (y4 + (1 : Int32)) h
def L_X11_teller_9 (E : Ev)  (y0 : Nat) : Nat → Int32 → Int32 → Int32 → Int32 → Hp → Rs
  | 0, _, _, _, _, _ => none
  | g + 1, y1, y2, y3, y4, h =>
    if (10 : Int32) ≤ y4 then
      rtI y1 h
    else
      (gfR h y0 11 2).bind fun v17 =>
      (isO h v17 0).bind fun _ => cI (F_X0_recordsOf E v17 y4 (0 : Int32) h) fun v23 h23 =>
      (gfR h23 y0 11 2).bind fun v29 =>
      (isO h23 v29 0).bind fun _ => cI (F_X0_recordsOf E v29 y4 (1 : Int32) h23) fun v35 h35 =>
      if v23 ≤ 0 then
        L_X11_teller_9 E y0 g y1 y2 y3 (y4 + (1 : Int32)) h35
      else
        if y1 = (-1 : Int32) then
          J_X11_teller_61 E
            (fun w1 w2 w3 w4 h7 =>
              L_X11_teller_9 E y0 g w1 w2 w3 w4 h7)
            y0 y4 v23 v35 h35
        else
          if (v35 * y3) ≤ (y2 * v23) then
            L_X11_teller_9 E y0 g y1 y2 y3 (y4 + (1 : Int32)) h35
          else
            J_X11_teller_61 E
              (fun w8 w9 w10 w11 h14 =>
                L_X11_teller_9 E y0 g w8 w9 w10 w11 h14)
              y0 y4 v23 v35 h35
def F_X11_teller (E : Ev) (a0 : Nat) (h : Hp) : Rs :=
  L_X11_teller_9 E a0 E.2.2.1 (-1 : Int32) (0 : Int32) (1 : Int32) (0 : Int32) h
def F_X11_told (E : Ev) (a0 : Nat) (x1 : Int32) (x2 : Int32) (h : Hp) : Rs :=
  (isO h a0 11).bind fun _ => xV (F_X11_needTeller E a0 x1 h) thr fun h2 =>
  (gfR h2 a0 11 2).bind fun v6 =>
  if ¬ x2 = 0 then
    (isO h2 v6 0).bind fun _ => cI (F_X0_recordsOf E v6 x1 (0 : Int32) h2) fun v19 h19 =>
    rtI v19 h19
  else
    (isO h2 v6 0).bind fun _ => cI (F_X0_recordsOf E v6 x1 (1 : Int32) h2) fun v19 h19 =>
    rtI v19 h19
def F_X11_needTray (E : Ev) (a0 : Nat) (x1 : Int32) (h : Hp) : Rs :=
  if x1 < 0 then
    thr "java/util/NoSuchElementException" h
  else
    if x1 < (4 : Int32) then
      rtV h
    else
      thr "java/util/NoSuchElementException" h
def F_X11_tray (E : Ev) (a0 : Nat) (x1 : Int32) (x2 : Int32) (x3 : Int32) (h : Hp) : Rs :=
  (isO h a0 11).bind fun _ => xV (F_X11_needTray E a0 x1 h) thr fun h2 =>
  if x2 < 0 then
    thr "java/lang/IllegalArgumentException" h2
  else
    if (4 : Int32) ≤ x2 then
      thr "java/lang/IllegalArgumentException" h2
    else
      if x3 < 0 then
        thr "java/lang/IllegalArgumentException" h2
      else
        if x3 ≤ (12 : Int32) then
          (gfR h2 a0 11 8).bind fun v33 =>
          (gaR E 4 h2 v33 x1).join.bind fun v37 =>
          (isO h2 v37 8).bind fun _ => cV (F_X8_lay E v37 x2 x3 h2) fun h40 =>
          rtV h40
        else
          thr "java/lang/IllegalArgumentException" h2
def F_X11_needLaid (E : Ev) (a0 : Nat) (x1 : Int32) (h : Hp) : Rs :=
  (gfR h a0 11 8).bind fun v1 =>
  (gaR E 4 h v1 x1).join.bind fun v5 =>
  (gfI h v5 8 0).bind fun v6 =>
  if v6 = 0 then
    rtV h
  else
    thr "java/lang/IllegalStateException" h
def F_X11_write (E : Ev) (a0 : Nat) (x1 : Int32) (x2 : Int32) (x3 : Int64) (h : Hp) : Rs :=
  (isO h a0 11).bind fun _ => xV (F_X11_needTray E a0 x1 h) thr fun h2 =>
  (isO h2 a0 11).bind fun _ => xV (F_X11_needLaid E a0 x1 h2) thr fun h7 =>
  if x2 < 0 then
    thr "java/lang/IndexOutOfBoundsException" h7
  else
    (gfR h7 a0 11 8).bind fun v16 =>
    (gaR E 4 h7 v16 x1).join.bind fun v20 =>
    (gfI h7 v20 8 2).bind fun v21 =>
    if x2 < v21 then
      (gfR h7 a0 11 8).bind fun v36 =>
      (gaR E 4 h7 v36 x1).join.bind fun v40 =>
      (gfR h7 v40 8 3).bind fun v41 =>
      (gfR h7 a0 11 8).bind fun v46 =>
      (gaR E 4 h7 v46 x1).join.bind fun v50 =>
      (isO h7 v50 8).bind fun _ => cL (F_X8_cut E v50 x3 h7) fun v52 h52 =>
      (paL E h52 v41 x2 v52).bind fun h55 =>
      (gfR h55 a0 11 8).bind fun v57 =>
      (gaR E 4 h55 v57 x1).join.bind fun v61 =>
      (gfR h55 v61 8 3).bind fun v62 =>
      (gaL E h55 v62 x2).bind fun v66 =>
      rtL v66 h55
    else
      thr "java/lang/IndexOutOfBoundsException" h7
def F_X11_say (E : Ev) (a0 : Nat) (x1 : Int32) (x2 : Int32) (x3 : Int32) (h : Hp) : Rs :=
  (isO h a0 11).bind fun _ => xV (F_X11_needTray E a0 x1 h) thr fun h2 =>
  (isO h2 a0 11).bind fun _ => xV (F_X11_needPlace E a0 x2 h2) thr fun h7 =>
  (isO h7 a0 11).bind fun _ => xV (F_X11_needLaid E a0 x1 h7) thr fun h12 =>
  (gfR h12 a0 11 8).bind fun v16 =>
  (gaR E 4 h12 v16 x1).join.bind fun v20 =>
  (isO h12 v20 8).bind fun _ => cI (F_X8_isSayable E v20 h12) fun v21 h21 =>
  if ¬ v21 = 0 then
    (isO h21 a0 11).bind fun _ => xV (F_X11_needTeller E a0 x3 h21) thr fun h37 =>
    (gfR h37 a0 11 2).bind fun v41 =>
    (gfR h37 a0 11 8).bind fun v45 =>
    (gaR E 4 h37 v45 x1).join.bind fun v49 =>
    (isO h37 v41 0).bind fun _ => cI (F_X0_addListed E v41 v49 x2 x3 h37) fun v52 h52 =>
    rtI v52 h52
  else
    thr "java/lang/IllegalArgumentException" h21
def F_X11_needImage (E : Ev) (a0 : Nat) (x1 : Int32) (h : Hp) : Rs :=
  if x1 < 0 then
    thr "java/util/NoSuchElementException" h
  else
    if x1 < (3 : Int32) then
      rtV h
    else
      thr "java/util/NoSuchElementException" h
def F_X11_restore (E : Ev) (a0 : Nat) (x1 : Int32) (h : Hp) : Rs :=
  (isO h a0 11).bind fun _ => xV (F_X11_needImage E a0 x1 h) thr fun h2 =>
  (gfR h2 a0 11 9).bind fun v6 =>
  (gaR E 5 h2 v6 x1).bind fun z =>
  if z = none then
    thr "java/lang/IllegalStateException" h2
  else
    (gfR h2 a0 11 10).bind fun v15 =>
    (gaR E 6 h2 v15 x1).bind fun z =>
    if z = none then
      thr "java/lang/IllegalStateException" h2
    else
      (gfR h2 a0 11 11).bind fun v24 =>
      (gaR E 7 h2 v24 x1).bind fun z =>
      if z = none then
        thr "java/lang/IllegalStateException" h2
      else
        (gfR h2 a0 11 0).bind fun v41 =>
        (gfR h2 a0 11 9).bind fun v45 =>
        (gaR E 5 h2 v45 x1).join.bind fun v49 =>
        (isO h2 v41 3).bind fun _ => cV (F_X3_take E v41 v49 h2) fun h50 =>
        (gfR h50 a0 11 1).bind fun v54 =>
        (gfR h50 a0 11 10).bind fun v58 =>
        (gaR E 6 h50 v58 x1).join.bind fun v62 =>
        (isO h50 v54 2).bind fun _ => cV (F_X2_take E v54 v62 h50) fun h63 =>
        (gfR h63 a0 11 2).bind fun v67 =>
        (gfR h63 a0 11 11).bind fun v71 =>
        (gaR E 7 h63 v71 x1).join.bind fun v75 =>
        (isO h63 v67 0).bind fun _ => cV (F_X0_take E v67 v75 h63) fun h76 =>
        (gfR h76 a0 11 3).bind fun v80 =>
        (isO h76 v80 10).bind fun _ => cV (F_X10_forget E v80 h76) fun h83 =>
        rtV h83
def F_X11_count (E : Ev) (a0 : Nat) (x1 : Int32) (h : Hp) : Rs :=
  if x1 = (0 : Int32) then
    (gfR h a0 11 0).bind fun v49 =>
    (gfI h v49 3 0).bind fun v52 =>
    rtI v52 h
  else
  if x1 = (1 : Int32) then
    (gfR h a0 11 0).bind fun v57 =>
    (gfI h v57 3 3).bind fun v60 =>
    rtI v60 h
  else
  if x1 = (2 : Int32) then
    (gfR h a0 11 0).bind fun v65 =>
    (gfI h v65 3 11).bind fun v68 =>
    rtI v68 h
  else
  if x1 = (3 : Int32) then
    (gfR h a0 11 1).bind fun v73 =>
    (gfI h v73 2 0).bind fun v76 =>
    rtI v76 h
  else
  if x1 = (4 : Int32) then
    (gfR h a0 11 1).bind fun v81 =>
    (gfI h v81 2 2).bind fun v84 =>
    rtI v84 h
  else
  if x1 = (5 : Int32) then
    (gfR h a0 11 2).bind fun v89 =>
    (gfI h v89 0 0).bind fun v92 =>
    rtI v92 h
  else
  if x1 = (6 : Int32) then
    (gfR h a0 11 2).bind fun v97 =>
    (gfI h v97 0 5).bind fun v100 =>
    rtI v100 h
  else
  if x1 = (7 : Int32) then
    (gfR h a0 11 7).bind fun v105 =>
    (gfI h v105 5 1).bind fun v108 =>
    rtI v108 h
  else
  rtI (-1 : Int32) h
def F_X12_thrown (E : Ev) (a0 : Nat) (h : Hp) : Rs :=
  (gfI h a0 12 3).bind fun v1 =>
  rtI v1 h
def F_X12_fails (E : Ev) (a0 : Nat) (x1 : Int32) (h : Hp) : Rs :=
  (pf h a0 12 3 (.int x1)).bind fun h2 =>
  rtI (0 : Int32) h2
def F_X12_fell (E : Ev) (a0 : Nat) (x1 : Int32) (h : Hp) : Rs :=
  (pf h a0 12 3 (.int x1)).bind fun h2 =>
  rtZ (0 : Int32) h2
def F_X12_within (E : Ev) (x0 : Int64) (x2 : Int64) (x4 : Int64) (h : Hp) : Rs :=
  if x0 < x2 then
    rtZ (0 : Int32) h
  else
    if x4 < x0 then
      rtZ (0 : Int32) h
    else
      rtZ (1 : Int32) h
def F_X12_isYear (E : Ev) (x0 : Int32) (h : Hp) : Rs :=
  cI (F_X12_within E ((x0).toInt64) (0 : Int64) (200 : Int64) h) fun v6 h6 =>
  rtZ v6 h6
def F_X12_is (E : Ev) (a0 : Nat) (x1 : Int32) (x2 : Int32) (h : Hp) : Rs :=
  (gfR h a0 12 0).bind fun v4 =>
  (gaI E 0 h v4 x1).bind fun v8 =>
  cI (F_X12_within E ((x2).toInt64) (0 : Int64) (((v8 - (1 : Int32))).toInt64) h) fun v12 h12 =>
  rtZ v12 h12
def F_X12_isPlace (E : Ev) (a0 : Nat) (x1 : Int32) (h : Hp) : Rs :=
  (isO h a0 12).bind fun _ => cI (F_X12_is E a0 (0 : Int32) x1 h) fun v3 h3 =>
  rtZ v3 h3
def F_X12_isWalker (E : Ev) (a0 : Nat) (x1 : Int32) (h : Hp) : Rs :=
  (isO h a0 12).bind fun _ => cI (F_X12_is E a0 (4 : Int32) x1 h) fun v3 h3 =>
  rtZ v3 h3
def F_X12_isTelling (E : Ev) (a0 : Nat) (x1 : Int32) (h : Hp) : Rs :=
  (isO h a0 12).bind fun _ => cI (F_X12_is E a0 (5 : Int32) x1 h) fun v3 h3 =>
  rtZ v3 h3
def F_X12_isState (E : Ev) (a0 : Nat) (x1 : Int32) (h : Hp) : Rs :=
  (gfR h a0 12 0).bind fun v5 =>
  (gaI E 0 h v5 (1 : Int32)).bind fun v9 =>
  cI (F_X12_within E ((x1).toInt64) (0 : Int64) (((((4 : Int32) * v9) - (1 : Int32))).toInt64) h) fun v14 h14 =>
  rtZ v14 h14
def F_X12_isName (E : Ev) (x0 : Int32) (h : Hp) : Rs :=
  cI (F_X12_within E ((x0).toInt64) (0 : Int64) (11 : Int64) h) fun v6 h6 =>
  rtZ v6 h6
def F_X12_more (E : Ev) (a0 : Nat) (x1 : Int32) (h : Hp) : Rs :=
  (pf h a0 12 4 (.int (-1 : Int32))).bind fun h2 =>
  (gfR h2 a0 12 0).bind fun v6 =>
  (gaI E 0 h2 v6 x1).bind fun v11 =>
  (paI E h2 v6 x1 (v11 + (1 : Int32))).bind fun h14 =>
  (gfR h14 a0 12 0).bind fun v16 =>
  (gaI E 0 h14 v16 x1).bind fun v20 =>
  rtI (v20 - (1 : Int32)) h14
def L_X12_place_37 (E : Ev) (K91 : Hp → Rs) (y0 : Nat) (y1 : Int32) (y2 : Int32) : Nat → Int32 → Hp → Rs
  | 0, _, _ => none
  | g + 1, y3, h =>
    (gfR h y0 12 0).bind fun v39 =>
    (gaI E 0 h v39 (0 : Int32)).bind fun v43 =>
    if v43 ≤ y3 then
      K91 h
    else
      (gfR h y0 12 0).bind fun v48 =>
      (gaI E 0 h v48 ((10 : Int32) + ((2 : Int32) * y3))).bind fun v57 =>
      if ¬ v57 = y1 then
        L_X12_place_37 E K91 y0 y1 y2 g (y3 + (1 : Int32)) h
      else
        (gfR h y0 12 0).bind fun v63 =>
        (gaI E 0 h v63 (((10 : Int32) + ((2 : Int32) * y3)) + (1 : Int32))).bind fun v74 =>
        if ¬ v74 = y2 then
          L_X12_place_37 E K91 y0 y1 y2 g (y3 + (1 : Int32)) h
        else
          (isO h y0 12).bind fun _ => cI (F_X12_fails E y0 (1 : Int32) h) fun v81 h81 =>
          rtI v81 h81
def F_X12_place (E : Ev) (a0 : Nat) (x1 : Int32) (x2 : Int32) (h : Hp) : Rs :=
  (pf h a0 12 3 (.int (0 : Int32))).bind fun h2 =>
  cI (F_X12_within E ((x1).toInt64) (0 : Int64) (99 : Int64) h2) fun v11 h11 =>
  if v11 = 0 then
    (isO h11 a0 12).bind fun _ => cI (F_X12_fails E a0 (1 : Int32) h11) fun v31 h31 =>
    rtI v31 h31
  else
    cI (F_X12_within E ((x2).toInt64) (0 : Int64) (99 : Int64) h11) fun v23 h23 =>
    if ¬ v23 = 0 then
      L_X12_place_37 E
        (fun h2 =>
          (gfR h2 a0 12 0).bind fun v92 =>
          (gaI E 0 h2 v92 (0 : Int32)).bind fun v96 =>
          if ¬ v96 = (40 : Int32) then
            (isO h2 a0 12).bind fun _ => cI (F_X12_more E a0 (0 : Int32) h2) fun v106 h106 =>
            (gfR h106 a0 12 0).bind fun v111 =>
            (paI E h106 v111 ((10 : Int32) + ((2 : Int32) * v106)) x1).bind fun h121 =>
            (gfR h121 a0 12 0).bind fun v123 =>
            (paI E h121 v123 (((10 : Int32) + ((2 : Int32) * v106)) + (1 : Int32)) x2).bind fun h135 =>
            rtI v106 h135
          else
            rtI (-1 : Int32) h2)
        a0 x1 x2 E.2.2.1 (0 : Int32) h23
    else
      (isO h23 a0 12).bind fun _ => cI (F_X12_fails E a0 (1 : Int32) h23) fun v31 h31 =>
      rtI v31 h31
def F_X12_wayOf (E : Ev) (a0 : Nat) (x1 : Int32) (x2 : Int32) (h : Hp) : Rs :=
  (gfR h a0 12 0).bind fun v1 =>
  (gaI E 0 h v1 (((90 : Int32) + ((6 : Int32) * x1)) + x2)).bind fun v13 =>
  rtI v13 h
def J_X12_way_149 (E : Ev) (K89 : Int32 → Hp → Rs) (y0 : Nat) (y1 : Int32) (y2 : Int32) (y5 : Int32) (y6 : Int32) (y7 : Int32) (t0 : Int32) (h : Hp) : Rs :=
  if t0 = 0 then
    K89 (y7 + (1 : Int32)) h
  else
    (isO h y0 12).bind fun _ => cI (F_X12_wayOf E y0 y7 (5 : Int32) h) fun v162 h162 =>
    if v162 < y5 then
      K89 (y7 + (1 : Int32)) h162
    else
      (isO h162 y0 12).bind fun _ => cI (F_X12_wayOf E y0 y7 (4 : Int32) h162) fun v174 h174 =>
      if y6 < v174 then
        K89 (y7 + (1 : Int32)) h174
      else
        (isO h174 y0 12).bind fun _ => cI (F_X12_fails E y0 (2 : Int32) h174) fun v182 h182 =>
        rtI v182 h182
def J_X12_way_122 (E : Ev) (K89 : Int32 → Hp → Rs) (y0 : Nat) (y1 : Int32) (y2 : Int32) (y5 : Int32) (y6 : Int32) (y7 : Int32) (h : Hp) : Rs :=
  (isO h y0 12).bind fun _ => cI (F_X12_wayOf E y0 y7 (0 : Int32) h) fun v126 h126 =>
  if ¬ v126 = y2 then
    J_X12_way_149 E K89 y0 y1 y2 y5 y6 y7 (0 : Int32) h126
  else
    (isO h126 y0 12).bind fun _ => cI (F_X12_wayOf E y0 y7 (1 : Int32) h126) fun v137 h137 =>
    if ¬ v137 = y1 then
      J_X12_way_149 E K89 y0 y1 y2 y5 y6 y7 (0 : Int32) h137
    else
      J_X12_way_149 E K89 y0 y1 y2 y5 y6 y7 (1 : Int32) h137
def L_X12_way_89 (E : Ev) (K192 : Hp → Rs) (y0 : Nat) (y1 : Int32) (y2 : Int32) (y5 : Int32) (y6 : Int32) : Nat → Int32 → Hp → Rs
  | 0, _, _ => none
  | g + 1, y7, h =>
    (gfR h y0 12 0).bind fun v92 =>
    (gaI E 0 h v92 (1 : Int32)).bind fun v96 =>
    if v96 ≤ y7 then
      K192 h
    else
      (isO h y0 12).bind fun _ => cI (F_X12_wayOf E y0 y7 (0 : Int32) h) fun v104 h104 =>
      if ¬ v104 = y1 then
        J_X12_way_122 E
          (fun w1 h3 =>
            L_X12_way_89 E K192 y0 y1 y2 y5 y6 g w1 h3)
          y0 y1 y2 y5 y6 y7 h104
      else
        (isO h104 y0 12).bind fun _ => cI (F_X12_wayOf E y0 y7 (1 : Int32) h104) fun v115 h115 =>
        if v115 = y2 then
          J_X12_way_149 E
            (fun w4 h6 =>
              L_X12_way_89 E K192 y0 y1 y2 y5 y6 g w4 h6)
            y0 y1 y2 y5 y6 y7 (1 : Int32) h115
        else
          J_X12_way_122 E
            (fun w7 h9 =>
              L_X12_way_89 E K192 y0 y1 y2 y5 y6 g w7 h9)
            y0 y1 y2 y5 y6 y7 h115
def F_X12_way (E : Ev) (a0 : Nat) (x1 : Int32) (x2 : Int32) (x3 : Int32) (x4 : Int32) (x5 : Int32) (x6 : Int32) (h : Hp) : Rs :=
  (pf h a0 12 3 (.int (0 : Int32))).bind fun h2 =>
  (isO h2 a0 12).bind fun _ => cI (F_X12_isPlace E a0 x1 h2) fun v7 h7 =>
  if v7 = 0 then
    (isO h7 a0 12).bind fun _ => cI (F_X12_fails E a0 (1 : Int32) h7) fun v23 h23 =>
    rtI v23 h23
  else
    (isO h7 a0 12).bind fun _ => cI (F_X12_isPlace E a0 x2 h7) fun v15 h15 =>
    if ¬ v15 = 0 then
      if x1 = x2 then
        (isO h15 a0 12).bind fun _ => cI (F_X12_fails E a0 (2 : Int32) h15) fun v82 h82 =>
        rtI v82 h82
      else
        cI (F_X12_within E ((x3).toInt64) (0 : Int64) (2 : Int64) h15) fun v38 h38 =>
        if v38 = 0 then
          (isO h38 a0 12).bind fun _ => cI (F_X12_fails E a0 (2 : Int32) h38) fun v82 h82 =>
          rtI v82 h82
        else
          cI (F_X12_within E ((x4).toInt64) (1 : Int64) (99 : Int64) h38) fun v51 h51 =>
          if v51 = 0 then
            (isO h51 a0 12).bind fun _ => cI (F_X12_fails E a0 (2 : Int32) h51) fun v82 h82 =>
            rtI v82 h82
          else
            cI (F_X12_isYear E x5 h51) fun v59 h59 =>
            if v59 = 0 then
              (isO h59 a0 12).bind fun _ => cI (F_X12_fails E a0 (2 : Int32) h59) fun v82 h82 =>
              rtI v82 h82
            else
              cI (F_X12_within E ((x6).toInt64) ((x5).toInt64) (200 : Int64) h59) fun v74 h74 =>
              if ¬ v74 = 0 then
                L_X12_way_89 E
                  (fun h3 =>
                    (gfR h3 a0 12 0).bind fun v193 =>
                    (gaI E 0 h3 v193 (1 : Int32)).bind fun v197 =>
                    if ¬ v197 = (60 : Int32) then
                      (isO h3 a0 12).bind fun _ => cI (F_X12_more E a0 (1 : Int32) h3) fun v207 h207 =>
                      (gfR h207 a0 12 0).bind fun v213 =>
                      (paI E h207 v213 ((90 : Int32) + ((6 : Int32) * v207)) x1).bind fun h225 =>
                      (gfR h225 a0 12 0).bind fun v227 =>
                      (paI E h225 v227 (((90 : Int32) + ((6 : Int32) * v207)) + (1 : Int32)) x2).bind fun h241 =>
                      (gfR h241 a0 12 0).bind fun v243 =>
                      (paI E h241 v243 (((90 : Int32) + ((6 : Int32) * v207)) + (2 : Int32)) x3).bind fun h257 =>
                      (gfR h257 a0 12 0).bind fun v259 =>
                      (paI E h257 v259 (((90 : Int32) + ((6 : Int32) * v207)) + (3 : Int32)) x4).bind fun h274 =>
                      (gfR h274 a0 12 0).bind fun v276 =>
                      (paI E h274 v276 (((90 : Int32) + ((6 : Int32) * v207)) + (4 : Int32)) x5).bind fun h291 =>
                      (gfR h291 a0 12 0).bind fun v293 =>
                      (paI E h291 v293 (((90 : Int32) + ((6 : Int32) * v207)) + (5 : Int32)) x6).bind fun h308 =>
                      rtI v207 h308
                    else
                      rtI (-1 : Int32) h3)
                  a0 x1 x2 x5 x6 E.2.2.1 (0 : Int32) h74
              else
                (isO h74 a0 12).bind fun _ => cI (F_X12_fails E a0 (2 : Int32) h74) fun v82 h82 =>
                rtI v82 h82
    else
      (isO h15 a0 12).bind fun _ => cI (F_X12_fails E a0 (1 : Int32) h15) fun v23 h23 =>
      rtI v23 h23
def J_X12_mark_128 (E : Ev)  (y0 : Nat) (y4 : Int32) (y5 : Int32) (y6 : Int32) (t0 : Nat) (t1 : Int32) (t2 : Int32) (h : Hp) : Rs :=
  (paI E h t0 t1 t2).bind fun h128 =>
  (gfR h128 y0 12 0).bind fun v130 =>
  (paI E h128 v130 (((450 : Int32) + ((5 : Int32) * y6)) + (3 : Int32)) y4).bind fun h145 =>
  (gfR h145 y0 12 0).bind fun v147 =>
  (paI E h145 v147 (((450 : Int32) + ((5 : Int32) * y6)) + (4 : Int32)) y5).bind fun h162 =>
  rtI y6 h162
def F_X12_mark (E : Ev) (a0 : Nat) (x1 : Int32) (x2 : Int32) (x3 : Int32) (x4 : Int32) (x5 : Int32) (h : Hp) : Rs :=
  (pf h a0 12 3 (.int (0 : Int32))).bind fun h2 =>
  (isO h2 a0 12).bind fun _ => cI (F_X12_isPlace E a0 x1 h2) fun v7 h7 =>
  if ¬ v7 = 0 then
    cI (F_X12_isName E x2 h7) fun v20 h20 =>
    if v20 = 0 then
      (isO h20 a0 12).bind fun _ => cI (F_X12_fails E a0 (2 : Int32) h20) fun v51 h51 =>
      rtI v51 h51
    else
      cI (F_X12_isYear E x4 h20) fun v28 h28 =>
      if v28 = 0 then
        (isO h28 a0 12).bind fun _ => cI (F_X12_fails E a0 (2 : Int32) h28) fun v51 h51 =>
        rtI v51 h51
      else
        cI (F_X12_within E ((x5).toInt64) ((x4).toInt64) (200 : Int64) h28) fun v43 h43 =>
        if ¬ v43 = 0 then
          (gfR h43 a0 12 0).bind fun v56 =>
          (gaI E 0 h43 v56 (2 : Int32)).bind fun v60 =>
          if ¬ v60 = (40 : Int32) then
            (isO h43 a0 12).bind fun _ => cI (F_X12_more E a0 (2 : Int32) h43) fun v70 h70 =>
            (gfR h70 a0 12 0).bind fun v76 =>
            (paI E h70 v76 ((450 : Int32) + ((5 : Int32) * v70)) x1).bind fun h88 =>
            (gfR h88 a0 12 0).bind fun v90 =>
            (paI E h88 v90 (((450 : Int32) + ((5 : Int32) * v70)) + (1 : Int32)) x2).bind fun h104 =>
            (gfR h104 a0 12 0).bind fun v106 =>
            if x3 = 0 then
              J_X12_mark_128 E a0 x4 x5 v70 v106 (((450 : Int32) + ((5 : Int32) * v70)) + (2 : Int32)) (0 : Int32) h104
            else
              J_X12_mark_128 E a0 x4 x5 v70 v106 (((450 : Int32) + ((5 : Int32) * v70)) + (2 : Int32)) (1 : Int32) h104
          else
            rtI (-1 : Int32) h43
        else
          (isO h43 a0 12).bind fun _ => cI (F_X12_fails E a0 (2 : Int32) h43) fun v51 h51 =>
          rtI v51 h51
  else
    (isO h7 a0 12).bind fun _ => cI (F_X12_fails E a0 (1 : Int32) h7) fun v15 h15 =>
    rtI v15 h15
def J_X12_ends_53 (E : Ev)  (y0 : Nat) (y3 : Int32) (t0 : Int32) (h : Hp) : Rs :=
  (gfR h y0 12 0).bind fun v58 =>
  (gaI E 0 h v58 t0).bind fun v63 =>
  (gfR h y0 12 0).bind fun v66 =>
  (gaI E 0 h v66 (t0 + (1 : Int32))).bind fun v73 =>
  cI (F_X12_within E ((y3).toInt64) ((v63).toInt64) ((v73).toInt64) h) fun v75 h75 =>
  if ¬ v75 = 0 then
    (gfR h75 y0 12 0).bind fun v88 =>
    (gaI E 0 h75 v88 (t0 + (1 : Int32))).bind fun v95 =>
    (gfR h75 y0 12 0).bind fun v99 =>
    (paI E h75 v99 (t0 + (1 : Int32)) y3).bind fun h107 =>
    (pf h107 y0 12 4 (.int (-1 : Int32))).bind fun h110 =>
    rtI v95 h110
  else
    (isO h75 y0 12).bind fun _ => cI (F_X12_fails E y0 (2 : Int32) h75) fun v83 h83 =>
    rtI v83 h83
def J_X12_ends_15 (E : Ev)  (y0 : Nat) (y1 : Int32) (y2 : Int32) (y3 : Int32) (t0 : Nat) (t1 : Int32) (h : Hp) : Rs :=
  (isO h t0 12).bind fun _ => cI (F_X12_is E t0 t1 y2 h) fun v16 h16 =>
  if ¬ v16 = 0 then
    if y1 = 0 then
      J_X12_ends_53 E y0 y3 (((450 : Int32) + ((5 : Int32) * y2)) + (3 : Int32)) h16
    else
      J_X12_ends_53 E y0 y3 (((90 : Int32) + ((6 : Int32) * y2)) + (4 : Int32)) h16
  else
    (isO h16 y0 12).bind fun _ => cI (F_X12_fails E y0 (1 : Int32) h16) fun v24 h24 =>
    rtI v24 h24
def F_X12_ends (E : Ev) (a0 : Nat) (x1 : Int32) (x2 : Int32) (x3 : Int32) (h : Hp) : Rs :=
  (pf h a0 12 3 (.int (0 : Int32))).bind fun h2 =>
  if x1 = 0 then
    J_X12_ends_15 E a0 x1 x2 x3 a0 (2 : Int32) h2
  else
    J_X12_ends_15 E a0 x1 x2 x3 a0 (1 : Int32) h2
def F_X12_isThere (E : Ev) (a0 : Nat) (x1 : Int32) (x2 : Int32) (h : Hp) : Rs :=
  (isO h a0 12).bind fun _ => cI (F_X12_wayOf E a0 x1 (4 : Int32) h) fun v5 h5 =>
  (isO h5 a0 12).bind fun _ => cI (F_X12_wayOf E a0 x1 (5 : Int32) h5) fun v12 h12 =>
  cI (F_X12_within E ((x2).toInt64) ((v5).toInt64) ((v12).toInt64) h12) fun v16 h16 =>
  rtZ v16 h16
def F_X12_endOf (E : Ev) (a0 : Nat) (x1 : Int32) (x2 : Int32) (h : Hp) : Rs :=
  (dvI x1 (2 : Int32)).bind fun v3 =>
  (rmI x1 (2 : Int32)).bind fun v6 =>
  if ¬ v6 = 0 then
    (isO h a0 12).bind fun _ => cI (F_X12_wayOf E a0 v3 ((1 : Int32) - x2) h) fun v17 h17 =>
    rtI v17 h17
  else
    (isO h a0 12).bind fun _ => cI (F_X12_wayOf E a0 v3 x2 h) fun v17 h17 =>
    rtI v17 h17
def F_X12_placeOf (E : Ev) (a0 : Nat) (x1 : Int32) (h : Hp) : Rs :=
  (dvI x1 (2 : Int32)).bind fun v3 =>
  (rmI x1 (2 : Int32)).bind fun v6 =>
  if ¬ v6 = 0 then
    (isO h a0 12).bind fun _ => cI (F_X12_endOf E a0 v3 (0 : Int32) h) fun v15 h15 =>
    rtI v15 h15
  else
    (isO h a0 12).bind fun _ => cI (F_X12_endOf E a0 v3 (1 : Int32) h) fun v15 h15 =>
    rtI v15 h15
def F_X12_alongX (E : Ev) (a0 : Nat) (x1 : Int32) (h : Hp) : Rs :=
  (gfR h a0 12 0).bind fun v1 =>
  (isO h a0 12).bind fun _ => cI (F_X12_endOf E a0 x1 (1 : Int32) h) fun v10 h10 =>
  (gaI E 0 h10 v1 ((10 : Int32) + ((2 : Int32) * v10))).bind fun v15 =>
  (gfR h10 a0 12 0).bind fun v17 =>
  (isO h10 a0 12).bind fun _ => cI (F_X12_endOf E a0 x1 (0 : Int32) h10) fun v26 h26 =>
  (gaI E 0 h26 v17 ((10 : Int32) + ((2 : Int32) * v26))).bind fun v31 =>
  rtI (v15 - v31) h26
def F_X12_alongY (E : Ev) (a0 : Nat) (x1 : Int32) (h : Hp) : Rs :=
  (gfR h a0 12 0).bind fun v1 =>
  (isO h a0 12).bind fun _ => cI (F_X12_endOf E a0 x1 (1 : Int32) h) fun v10 h10 =>
  (gaI E 0 h10 v1 (((10 : Int32) + ((2 : Int32) * v10)) + (1 : Int32))).bind fun v17 =>
  (gfR h10 a0 12 0).bind fun v19 =>
  (isO h10 a0 12).bind fun _ => cI (F_X12_endOf E a0 x1 (0 : Int32) h10) fun v28 h28 =>
  (gaI E 0 h28 v19 (((10 : Int32) + ((2 : Int32) * v28)) + (1 : Int32))).bind fun v35 =>
  rtI (v17 - v35) h28
def F_X12_state (E : Ev) (a0 : Nat) (x1 : Int32) (x2 : Int32) (h : Hp) : Rs :=
  (pf h a0 12 3 (.int (0 : Int32))).bind fun h2 =>
  (isO h2 a0 12).bind fun _ => cI (F_X12_isState E a0 x1 h2) fun v7 h7 =>
  if ¬ v7 = 0 then
    cI (F_X12_within E ((x2).toInt64) (0 : Int64) (2 : Int64) h7) fun v25 h25 =>
    if ¬ v25 = 0 then
      if ¬ x2 = 0 then
        if ¬ x2 = (1 : Int32) then
          (dvI x1 (4 : Int32)).bind fun v64 =>
          rtI v64 h25
        else
          (rmI x1 (2 : Int32)).bind fun v57 =>
          rtI ((1 : Int32) - v57) h25
      else
        (isO h25 a0 12).bind fun _ => cI (F_X12_placeOf E a0 x1 h25) fun v43 h43 =>
        rtI v43 h43
    else
      (isO h25 a0 12).bind fun _ => cI (F_X12_fails E a0 (2 : Int32) h25) fun v33 h33 =>
      rtI v33 h33
  else
    (isO h7 a0 12).bind fun _ => cI (F_X12_fails E a0 (1 : Int32) h7) fun v15 h15 =>
    rtI v15 h15
def F_X12_isOut (E : Ev) (a0 : Nat) (x1 : Int32) (x2 : Int32) (x3 : Int32) (h : Hp) : Rs :=
  (isO h a0 12).bind fun _ => cI (F_X12_endOf E a0 x2 (0 : Int32) h) fun v3 h3 =>
  (isO h3 a0 12).bind fun _ => cI (F_X12_placeOf E a0 x1 h3) fun v8 h8 =>
  if ¬ v3 = v8 then
    rtZ (0 : Int32) h8
  else
    (dvI x2 (2 : Int32)).bind fun v17 =>
    (isO h8 a0 12).bind fun _ => cI (F_X12_isThere E a0 v17 x3 h8) fun v19 h19 =>
    if v19 = 0 then
      rtZ (0 : Int32) h19
    else
      (rmI x1 (2 : Int32)).bind fun v27 =>
      if v27 = (1 : Int32) then
        rtZ (1 : Int32) h19
      else
        (dvI x1 (2 : Int32)).bind fun v35 =>
        if x2 = (v35 ^^^ (1 : Int32)) then
          rtZ (0 : Int32) h19
        else
          rtZ (1 : Int32) h19
def F_X12_cross (E : Ev) (a0 : Nat) (x1 : Int32) (x2 : Int32) (h : Hp) : Rs :=
  (dvI x1 (2 : Int32)).bind fun v3 =>
  (isO h a0 12).bind fun _ => cI (F_X12_alongX E a0 v3 h) fun v4 h4 =>
  (isO h4 a0 12).bind fun _ => cI (F_X12_alongY E a0 x2 h4) fun v9 h9 =>
  (dvI x1 (2 : Int32)).bind fun v16 =>
  (isO h9 a0 12).bind fun _ => cI (F_X12_alongY E a0 v16 h9) fun v17 h17 =>
  (isO h17 a0 12).bind fun _ => cI (F_X12_alongX E a0 x2 h17) fun v22 h22 =>
  rtI ((v4 * v9) - (v17 * v22)) h22
def F_X12_dots (E : Ev) (a0 : Nat) (x1 : Int32) (x2 : Int32) (h : Hp) : Rs :=
  (dvI x1 (2 : Int32)).bind fun v3 =>
  (isO h a0 12).bind fun _ => cI (F_X12_alongX E a0 v3 h) fun v4 h4 =>
  (isO h4 a0 12).bind fun _ => cI (F_X12_alongX E a0 x2 h4) fun v9 h9 =>
  (dvI x1 (2 : Int32)).bind fun v16 =>
  (isO h9 a0 12).bind fun _ => cI (F_X12_alongY E a0 v16 h9) fun v17 h17 =>
  (isO h17 a0 12).bind fun _ => cI (F_X12_alongY E a0 x2 h17) fun v22 h22 =>
  lt ((((v4 * v9) + (v17 * v22))).toInt64) fun u1 =>
  if (0 : Int64) ≤ u1 then
    rtL (u1 * u1) h22
  else
    rtL ((-u1) * u1) h22
def F_X12_sizes (E : Ev) (a0 : Nat) (x1 : Int32) (h : Hp) : Rs :=
  (isO h a0 12).bind fun _ => cI (F_X12_alongX E a0 x1 h) fun v2 h2 =>
  (isO h2 a0 12).bind fun _ => cI (F_X12_alongX E a0 x1 h2) fun v7 h7 =>
  (isO h7 a0 12).bind fun _ => cI (F_X12_alongY E a0 x1 h7) fun v13 h13 =>
  (isO h13 a0 12).bind fun _ => cI (F_X12_alongY E a0 x1 h13) fun v18 h18 =>
  rtL ((((v2 * v7) + (v13 * v18))).toInt64) h18
def F_X12_isLessTurned (E : Ev) (a0 : Nat) (x1 : Int32) (x2 : Int32) (x3 : Int32) (h : Hp) : Rs :=
  (isO h a0 12).bind fun _ => cL (F_X12_dots E a0 x1 x2 h) fun v3 h3 =>
  (isO h3 a0 12).bind fun _ => cL (F_X12_sizes E a0 x3 h3) fun v8 h8 =>
  (isO h8 a0 12).bind fun _ => cL (F_X12_dots E a0 x1 x3 h8) fun v15 h15 =>
  (isO h15 a0 12).bind fun _ => cL (F_X12_sizes E a0 x2 h15) fun v20 h20 =>
  if (v3 * v8) ≤ (v15 * v20) then
    rtZ (0 : Int32) h20
  else
    rtZ (1 : Int32) h20
def J_X12_out_108 (E : Ev) (K50 : Int32 → Int32 → Hp → Rs) (y0 : Nat) (y1 : Int32) (y2 : Int32) (y3 : Int32) (y5 : Int32) (t0 : Int32) (t1 : Int32) (t2 : Int32) (h : Hp) : Rs :=
  if ¬ t1 = t2 then
    K50 (t0 + (0 : Int32)) (y5 + (1 : Int32)) h
  else
    K50 (t0 + (1 : Int32)) (y5 + (1 : Int32)) h
def L_X12_out_50 (E : Ev)  (y0 : Nat) (y1 : Int32) (y2 : Int32) (y3 : Int32) : Nat → Int32 → Int32 → Hp → Rs
  | 0, _, _, _ => none
  | g + 1, y4, y5, h =>
    (gfR h y0 12 0).bind fun v54 =>
    (gaI E 0 h v54 (1 : Int32)).bind fun v58 =>
    if ((2 : Int32) * v58) ≤ y5 then
      rtI y4 h
    else
      (isO h y0 12).bind fun _ => cI (F_X12_isOut E y0 y1 y5 y3 h) fun v68 h68 =>
      if ¬ v68 = 0 then
        (isO h68 y0 12).bind fun _ => cI (F_X12_cross E y0 y1 y5 h68) fun v81 h81 =>
        if v81 ≤ 0 then
          if 0 ≤ v81 then
            J_X12_out_108 E
              (fun w1 w2 h4 =>
                L_X12_out_50 E y0 y1 y2 y3 g w1 w2 h4)
              y0 y1 y2 y3 y5 y4 y2 (2 : Int32) h81
          else
            J_X12_out_108 E
              (fun w5 w6 h8 =>
                L_X12_out_50 E y0 y1 y2 y3 g w5 w6 h8)
              y0 y1 y2 y3 y5 y4 y2 (1 : Int32) h81
        else
          J_X12_out_108 E
            (fun w9 w10 h12 =>
              L_X12_out_50 E y0 y1 y2 y3 g w9 w10 h12)
            y0 y1 y2 y3 y5 y4 y2 (0 : Int32) h81
      else
        L_X12_out_50 E y0 y1 y2 y3 g y4 (y5 + (1 : Int32)) h68
def F_X12_out (E : Ev) (a0 : Nat) (x1 : Int32) (x2 : Int32) (x3 : Int32) (h : Hp) : Rs :=
  (pf h a0 12 3 (.int (0 : Int32))).bind fun h2 =>
  (isO h2 a0 12).bind fun _ => cI (F_X12_isState E a0 x1 h2) fun v7 h7 =>
  if ¬ v7 = 0 then
    cI (F_X12_within E ((x2).toInt64) (0 : Int64) (2 : Int64) h7) fun v25 h25 =>
    if v25 = 0 then
      (isO h25 a0 12).bind fun _ => cI (F_X12_fails E a0 (2 : Int32) h25) fun v40 h40 =>
      rtI v40 h40
    else
      cI (F_X12_isYear E x3 h25) fun v32 h32 =>
      if ¬ v32 = 0 then
        L_X12_out_50 E a0 x1 x2 x3 E.2.2.1 (0 : Int32) (0 : Int32) h32
      else
        (isO h32 a0 12).bind fun _ => cI (F_X12_fails E a0 (2 : Int32) h32) fun v40 h40 =>
        rtI v40 h40
  else
    (isO h7 a0 12).bind fun _ => cI (F_X12_fails E a0 (1 : Int32) h7) fun v15 h15 =>
    rtI v15 h15
def F_X12_has (E : Ev) (a0 : Nat) (x1 : Int32) (x2 : Int32) (h : Hp) : Rs :=
  (gaL E h a0 (x1 + (x2 >>> ((6 : Int32) &&& 31)))).bind fun v7 =>
  if ¬ ((v7 >>> (((x2 &&& (63 : Int32))).toInt64 &&& 63)) &&& (1 : Int64)) = (1 : Int64) then
    rtZ (0 : Int32) h
  else
    rtZ (1 : Int32) h
def F_X12_put (E : Ev) (a0 : Nat) (x1 : Int32) (x2 : Int32) (h : Hp) : Rs :=
  (gaL E h a0 (x1 + (x2 >>> ((6 : Int32) &&& 31)))).bind fun v8 =>
  (paL E h a0 (x1 + (x2 >>> ((6 : Int32) &&& 31))) (v8 ||| ((1 : Int64) <<< (((x2 &&& (63 : Int32))).toInt64 &&& 63)))).bind fun h16 =>
  rtV h16
def L_X12_join_3 (E : Ev)  (y0 : Nat) (y1 : Int32) (y2 : Nat) (y3 : Int32) : Nat → Int32 → Hp → Rs
  | 0, _, _ => none
  | g + 1, y4, h =>
    if (4 : Int32) ≤ y4 then
      rtV h
    else
      (gaL E h y0 (y1 + y4)).bind fun v15 =>
      (gaL E h y2 (y3 + y4)).bind fun v21 =>
      (paL E h y0 (y1 + y4) (v15 ||| v21)).bind fun h23 =>
      L_X12_join_3 E y0 y1 y2 y3 g (y4 + (1 : Int32)) h23
def F_X12_join (E : Ev) (a0 : Nat) (x1 : Int32) (a2 : Nat) (x3 : Int32) (h : Hp) : Rs :=
  L_X12_join_3 E a0 x1 a2 x3 E.2.2.1 (0 : Int32) h
def L_X12_empty_2 (E : Ev)  (y0 : Nat) (y1 : Int32) : Nat → Int32 → Hp → Rs
  | 0, _, _ => none
  | g + 1, y2, h =>
    if (4 : Int32) ≤ y2 then
      rtV h
    else
      (paL E h y0 (y1 + y2) (0 : Int64)).bind fun h12 =>
      L_X12_empty_2 E y0 y1 g (y2 + (1 : Int32)) h12
def F_X12_empty (E : Ev) (a0 : Nat) (x1 : Int32) (h : Hp) : Rs :=
  L_X12_empty_2 E a0 x1 E.2.2.1 (0 : Int32) h
def L_X12_copy_3 (E : Ev)  (y0 : Nat) (y1 : Int32) (y2 : Nat) (y3 : Int32) : Nat → Int32 → Hp → Rs
  | 0, _, _ => none
  | g + 1, y4, h =>
    if (4 : Int32) ≤ y4 then
      rtV h
    else
      (gaL E h y2 (y3 + y4)).bind fun v19 =>
      (paL E h y0 (y1 + y4) v19).bind fun h20 =>
      L_X12_copy_3 E y0 y1 y2 y3 g (y4 + (1 : Int32)) h20
def F_X12_copy (E : Ev) (a0 : Nat) (x1 : Int32) (a2 : Nat) (x3 : Int32) (h : Hp) : Rs :=
  L_X12_copy_3 E a0 x1 a2 x3 E.2.2.1 (0 : Int32) h
def F_X12_isNone (E : Ev) (a0 : Nat) (x1 : Int32) (h : Hp) : Rs :=
  (gaL E h a0 x1).bind fun v2 =>
  (gaL E h a0 (x1 + (1 : Int32))).bind fun v7 =>
  (gaL E h a0 (x1 + (2 : Int32))).bind fun v13 =>
  (gaL E h a0 (x1 + (3 : Int32))).bind fun v19 =>
  if ¬ (((v2 ||| v7) ||| v13) ||| v19) = (0 : Int64) then
    rtZ (0 : Int32) h
  else
    rtZ (1 : Int32) h
def F_X12_sideAt (E : Ev) (x0 : Int32) (x1 : Int32) (x2 : Int32) (h : Hp) : Rs :=
  if x1 = 0 then
    rtI (((960 : Int32) * (((1 : Int32) + x0) + (2 : Int32))) + ((4 : Int32) * x2)) h
  else
    rtI (((960 : Int32) * (((1 : Int32) + x0) + (0 : Int32))) + ((4 : Int32) * x2)) h
def J_X12_layOne_113 (E : Ev) (K5 : Int32 → Int32 → Hp → Rs) (y0 : Nat) (y1 : Int32) (y2 : Int32) (y3 : Int32) (y4 : Int32) (t0 : Nat) (t1 : Int32) (h : Hp) : Rs :=
  cI (F_X12_sideAt E t1 (0 : Int32) y1 h) fun v115 h115 =>
  cV (F_X12_put E t0 v115 ((2 : Int32) * y4) h115) fun h122 =>
  K5 y3 (y4 + (1 : Int32)) h122
def J_X12_layOne_74 (E : Ev) (K5 : Int32 → Int32 → Hp → Rs) (y0 : Nat) (y1 : Int32) (y2 : Int32) (y3 : Int32) (y4 : Int32) (y5 : Int32) (t0 : Nat) (t1 : Int32) (h : Hp) : Rs :=
  cI (F_X12_sideAt E t1 (1 : Int32) y1 h) fun v76 h76 =>
  cV (F_X12_put E t0 v76 ((2 : Int32) * y4) h76) fun h83 =>
  (dvI y4 (2 : Int32)).bind fun v90 =>
  (isO h83 y0 12).bind fun _ => cI (F_X12_wayOf E y0 v90 (2 : Int32) h83) fun v92 h92 =>
  if v92 = (2 : Int32) then
    K5 y3 (y4 + (1 : Int32)) h92
  else
    (gfR h92 y0 12 5).bind fun v100 =>
    if y5 ≤ 0 then
      J_X12_layOne_113 E K5 y0 y1 y2 y3 y4 v100 (1 : Int32) h92
    else
      J_X12_layOne_113 E K5 y0 y1 y2 y3 y4 v100 (0 : Int32) h92
def L_X12_layOne_5 (E : Ev) (K131 : Int32 → Hp → Rs) (y0 : Nat) (y1 : Int32) (y2 : Int32) : Nat → Int32 → Int32 → Hp → Rs
  | 0, _, _, _ => none
  | g + 1, y3, y4, h =>
    (gfR h y0 12 0).bind fun v9 =>
    (gaI E 0 h v9 (1 : Int32)).bind fun v13 =>
    if ((2 : Int32) * v13) ≤ y4 then
      K131 y3 h
    else
      (isO h y0 12).bind fun _ => cI (F_X12_isOut E y0 y1 y4 y2 h) fun v23 h23 =>
      if ¬ v23 = 0 then
        (gfR h23 y0 12 8).bind fun v33 =>
        (paI E h23 v33 y3 y4).bind fun h39 =>
        (isO h39 y0 12).bind fun _ => cI (F_X12_cross E y0 y1 y4 h39) fun v47 h47 =>
        if ¬ v47 = 0 then
          (gfR h47 y0 12 5).bind fun v61 =>
          if v47 ≤ 0 then
            J_X12_layOne_74 E
              (fun w1 w2 h4 =>
                L_X12_layOne_5 E K131 y0 y1 y2 g w1 w2 h4)
              y0 y1 y2 (y3 + (1 : Int32)) y4 v47 v61 (1 : Int32) h47
          else
            J_X12_layOne_74 E
              (fun w5 w6 h8 =>
                L_X12_layOne_5 E K131 y0 y1 y2 g w5 w6 h8)
              y0 y1 y2 (y3 + (1 : Int32)) y4 v47 v61 (0 : Int32) h47
        else
          L_X12_layOne_5 E K131 y0 y1 y2 g (y3 + (1 : Int32)) (y4 + (1 : Int32)) h47
      else
        L_X12_layOne_5 E K131 y0 y1 y2 g y3 (y4 + (1 : Int32)) h23
def L_X12_layOne_146 (E : Ev) (K192 : Int32 → Hp → Rs) (y0 : Nat) (y1 : Int32) (y3 : Int32) (y4 : Int32) : Nat → Int32 → Int32 → Hp → Rs
  | 0, _, _, _ => none
  | g + 1, y5, y6, h =>
    if y3 ≤ y6 then
      K192 y5 h
    else
      if y5 = 0 then
        K192 y5 h
      else
        (gfR h y0 12 8).bind fun v160 =>
        (gaI E 0 h v160 y6).bind fun v165 =>
        (gfR h y0 12 8).bind fun v167 =>
        (gaI E 0 h v167 y4).bind fun v172 =>
        (isO h y0 12).bind fun _ => cI (F_X12_isLessTurned E y0 y1 v165 v172 h) fun v173 h173 =>
        if ¬ v173 = 0 then
          L_X12_layOne_146 E K192 y0 y1 y3 y4 g (0 : Int32) (y6 + (1 : Int32)) h173
        else
          L_X12_layOne_146 E K192 y0 y1 y3 y4 g (1 : Int32) (y6 + (1 : Int32)) h173
def J_X12_layOne_192 (E : Ev) (K134 : Int32 → Hp → Rs) (y0 : Nat) (y1 : Int32) (y3 : Int32) (y4 : Int32) (y5 : Int32) (h : Hp) : Rs :=
  if y5 = 0 then
    K134 (y4 + (1 : Int32)) h
  else
    (gfR h y0 12 5).bind fun v198 =>
    (gfR h y0 12 8).bind fun v208 =>
    (gaI E 0 h v208 y4).bind fun v213 =>
    cV (F_X12_put E v198 ((0 : Int32) + ((4 : Int32) * y1)) ((2 : Int32) * v213) h) fun h215 =>
    K134 (y4 + (1 : Int32)) h215
def L_X12_layOne_134 (E : Ev)  (y0 : Nat) (y1 : Int32) (y3 : Int32) : Nat → Int32 → Hp → Rs
  | 0, _, _ => none
  | g + 1, y4, h =>
    if y3 ≤ y4 then
      rtV h
    else
      L_X12_layOne_146 E
        (fun w1 h3 =>
          J_X12_layOne_192 E
            (fun w4 h7 =>
              L_X12_layOne_134 E y0 y1 y3 g w4 h7)
            y0 y1 y3 y4 w1 h3)
        y0 y1 y3 y4 E.2.2.1 (1 : Int32) (0 : Int32) h
def F_X12_layOne (E : Ev) (a0 : Nat) (x1 : Int32) (x2 : Int32) (h : Hp) : Rs :=
  L_X12_layOne_5 E
    (fun w1 h4 =>
      L_X12_layOne_134 E a0 x1 w1 E.2.2.1 (0 : Int32) h4)
    a0 x1 x2 E.2.2.1 (0 : Int32) (0 : Int32) h
def L_X12_lay_16 (E : Ev) (K38 : Hp → Rs) (y0 : Nat) : Nat → Int32 → Hp → Rs
  | 0, _, _ => none
  | g + 1, y2, h =>
    (gfR h y0 12 5).bind fun v18 =>
    (aln E 1 h v18).bind fun v21 =>
    if v21 ≤ y2 then
      K38 h
    else
      (gfR h y0 12 5).bind fun v26 =>
      (paL E h v26 y2 (0 : Int64)).bind fun h31 =>
      L_X12_lay_16 E K38 y0 g (y2 + (1 : Int32)) h31
def L_X12_lay_40 (E : Ev) (K62 : Hp → Rs) (y0 : Nat) : Nat → Int32 → Hp → Rs
  | 0, _, _ => none
  | g + 1, y2, h =>
    (gfR h y0 12 7).bind fun v42 =>
    (aln E 2 h v42).bind fun v45 =>
    if v45 ≤ y2 then
      K62 h
    else
      (gfR h y0 12 7).bind fun v50 =>
      (paZ E h v50 y2 (0 : Int32)).bind fun h55 =>
      L_X12_lay_40 E K62 y0 g (y2 + (1 : Int32)) h55
def L_X12_lay_64 (E : Ev)  (y0 : Nat) (y1 : Int32) : Nat → Int32 → Hp → Rs
  | 0, _, _ => none
  | g + 1, y2, h =>
    (gfR h y0 12 0).bind fun v67 =>
    (gaI E 0 h v67 (1 : Int32)).bind fun v71 =>
    if ((4 : Int32) * v71) ≤ y2 then
      rtV h
    else
      (isO h y0 12).bind fun _ => cV (F_X12_layOne E y0 y2 y1 h) fun h79 =>
      L_X12_lay_64 E y0 y1 g (y2 + (1 : Int32)) h79
def F_X12_lay (E : Ev) (a0 : Nat) (x1 : Int32) (h : Hp) : Rs :=
  (gfI h a0 12 4).bind fun v1 =>
  if ¬ v1 = x1 then
    (pf h a0 12 4 (.int x1)).bind fun h11 =>
    L_X12_lay_16 E
      (fun h2 =>
        L_X12_lay_40 E
          (fun h4 =>
            L_X12_lay_64 E a0 x1 E.2.2.1 (0 : Int32) h4)
          a0 E.2.2.1 (0 : Int32) h2)
      a0 E.2.2.1 (0 : Int32) h11
  else
    rtV h
def L_X12_sizeOf_4 (E : Ev)  (y0 : Nat) (y1 : Int32) : Nat → Int32 → Int32 → Hp → Rs
  | 0, _, _, _ => none
  | g + 1, y2, y3, h =>
    if (240 : Int32) ≤ y3 then
      rtI y2 h
    else
      cI (F_X12_has E y0 y1 y3 h) fun v15 h15 =>
      if v15 = 0 then
        L_X12_sizeOf_4 E y0 y1 g (y2 + (0 : Int32)) (y3 + (1 : Int32)) h15
      else
        L_X12_sizeOf_4 E y0 y1 g (y2 + (1 : Int32)) (y3 + (1 : Int32)) h15
def F_X12_sizeOf (E : Ev) (a0 : Nat) (x1 : Int32) (h : Hp) : Rs :=
  L_X12_sizeOf_4 E a0 x1 E.2.2.1 (0 : Int32) (0 : Int32) h
def L_X12_numberOf_16 (E : Ev)  (y0 : Nat) (y1 : Int32) (y2 : Int32) : Nat → Int32 → Int32 → Hp → Rs
  | 0, _, _, _ => none
  | g + 1, y3, y4, h =>
    if (240 : Int32) ≤ y4 then
      rtI (-1 : Int32) h
    else
      cI (F_X12_has E y0 y1 y4 h) fun v28 h28 =>
      if ¬ v28 = 0 then
        if ¬ y3 = y2 then
          L_X12_numberOf_16 E y0 y1 y2 g (y3 + (1 : Int32)) (y4 + (1 : Int32)) h28
        else
          rtI y4 h28
      else
        L_X12_numberOf_16 E y0 y1 y2 g y3 (y4 + (1 : Int32)) h28
def F_X12_numberOf (E : Ev) (a0 : Nat) (x1 : Int32) (x2 : Int32) (h : Hp) : Rs :=
  if ¬ x2 = (-1 : Int32) then
    L_X12_numberOf_16 E a0 x1 x2 E.2.2.1 (0 : Int32) (0 : Int32) h
  else
    cI (F_X12_sizeOf E a0 x1 h) fun v7 h7 =>
    rtI v7 h7
def F_X12_on (E : Ev) (a0 : Nat) (x1 : Int32) (x2 : Int32) (x3 : Int32) (h : Hp) : Rs :=
  (pf h a0 12 3 (.int (0 : Int32))).bind fun h2 =>
  (isO h2 a0 12).bind fun _ => cI (F_X12_isState E a0 x1 h2) fun v7 h7 =>
  if ¬ v7 = 0 then
    cI (F_X12_isYear E x2 h7) fun v20 h20 =>
    if ¬ v20 = 0 then
      (isO h20 a0 12).bind fun _ => cV (F_X12_lay E a0 x2 h20) fun h34 =>
      (gfR h34 a0 12 5).bind fun v38 =>
      cI (F_X12_numberOf E v38 ((0 : Int32) + ((4 : Int32) * x1)) x3 h34) fun v47 h47 =>
      rtI v47 h47
    else
      (isO h20 a0 12).bind fun _ => cI (F_X12_fails E a0 (2 : Int32) h20) fun v28 h28 =>
      rtI v28 h28
  else
    (isO h7 a0 12).bind fun _ => cI (F_X12_fails E a0 (1 : Int32) h7) fun v15 h15 =>
    rtI v15 h15
def L_X12_tongue_26 (E : Ev)  (y0 : Nat) (y1 : Int32) : Nat → Int32 → Hp → Rs
  | 0, _, _ => none
  | g + 1, y2, h =>
    if (12 : Int32) ≤ y2 then
      rtI y1 h
    else
      (gfR h y0 12 0).bind fun v33 =>
      (paI E h v33 (((650 : Int32) + ((12 : Int32) * y1)) + y2) ((1 : Int32) <<< (y2 &&& 31))).bind fun h49 =>
      L_X12_tongue_26 E y0 y1 g (y2 + (1 : Int32)) h49
def F_X12_tongue (E : Ev) (a0 : Nat) (h : Hp) : Rs :=
  (pf h a0 12 3 (.int (0 : Int32))).bind fun h2 =>
  (gfR h2 a0 12 0).bind fun v6 =>
  (gaI E 0 h2 v6 (3 : Int32)).bind fun v10 =>
  if ¬ v10 = (6 : Int32) then
    (isO h2 a0 12).bind fun _ => cI (F_X12_more E a0 (3 : Int32) h2) fun v20 h20 =>
    L_X12_tongue_26 E a0 v20 E.2.2.1 (0 : Int32) h20
  else
    rtI (-1 : Int32) h2
def F_X12_means (E : Ev) (a0 : Nat) (x1 : Int32) (x2 : Int32) (x3 : Int32) (h : Hp) : Rs :=
  (pf h a0 12 3 (.int (0 : Int32))).bind fun h2 =>
  (isO h2 a0 12).bind fun _ => cI (F_X12_is E a0 (3 : Int32) x1 h2) fun v8 h8 =>
  if v8 = 0 then
    (isO h8 a0 12).bind fun _ => cI (F_X12_fails E a0 (1 : Int32) h8) fun v23 h23 =>
    rtI v23 h23
  else
    cI (F_X12_isName E x2 h8) fun v15 h15 =>
    if ¬ v15 = 0 then
      cI (F_X12_within E ((x3).toInt64) (0 : Int64) (4095 : Int64) h15) fun v33 h33 =>
      if ¬ v33 = 0 then
        (pf h33 a0 12 4 (.int (-1 : Int32))).bind fun h47 =>
        (gfR h47 a0 12 0).bind fun v51 =>
        (gaI E 0 h47 v51 (((650 : Int32) + ((12 : Int32) * x1)) + x2)).bind fun v64 =>
        (gfR h47 a0 12 0).bind fun v68 =>
        (paI E h47 v68 (((650 : Int32) + ((12 : Int32) * x1)) + x2) x3).bind fun h82 =>
        rtI v64 h82
      else
        (isO h33 a0 12).bind fun _ => cI (F_X12_fails E a0 (2 : Int32) h33) fun v41 h41 =>
        rtI v41 h41
    else
      (isO h15 a0 12).bind fun _ => cI (F_X12_fails E a0 (1 : Int32) h15) fun v23 h23 =>
      rtI v23 h23
def J_X12_walker_149 (E : Ev)  (y0 : Nat) (y5 : Int32) (y6 : Int32) (t0 : Nat) (t1 : Int32) (t2 : Int32) (h : Hp) : Rs :=
  (paI E h t0 t1 t2).bind fun h149 =>
  (gfR h149 y0 12 0).bind fun v151 =>
  (paI E h149 v151 (((722 : Int32) + ((5 : Int32) * y6)) + (4 : Int32)) y5).bind fun h166 =>
  rtI y6 h166
def J_X12_walker_124 (E : Ev)  (y0 : Nat) (y4 : Int32) (y5 : Int32) (y6 : Int32) (t0 : Nat) (t1 : Int32) (t2 : Int32) (h : Hp) : Rs :=
  (paI E h t0 t1 t2).bind fun h124 =>
  (gfR h124 y0 12 0).bind fun v126 =>
  if y4 = 0 then
    J_X12_walker_149 E y0 y5 y6 v126 (((722 : Int32) + ((5 : Int32) * y6)) + (3 : Int32)) (0 : Int32) h124
  else
    J_X12_walker_149 E y0 y5 y6 v126 (((722 : Int32) + ((5 : Int32) * y6)) + (3 : Int32)) (1 : Int32) h124
def F_X12_walker (E : Ev) (a0 : Nat) (x1 : Int32) (x2 : Int32) (x3 : Int32) (x4 : Int32) (x5 : Int32) (h : Hp) : Rs :=
  (pf h a0 12 3 (.int (0 : Int32))).bind fun h2 =>
  (isO h2 a0 12).bind fun _ => cI (F_X12_is E a0 (3 : Int32) x1 h2) fun v8 h8 =>
  if ¬ v8 = 0 then
    cI (F_X12_within E ((x2).toInt64) (0 : Int64) (4095 : Int64) h8) fun v26 h26 =>
    if v26 = 0 then
      (isO h26 a0 12).bind fun _ => cI (F_X12_fails E a0 (2 : Int32) h26) fun v47 h47 =>
      rtI v47 h47
    else
      cI (F_X12_within E ((x5).toInt64) (1 : Int64) (20 : Int64) h26) fun v39 h39 =>
      if ¬ v39 = 0 then
        (gfR h39 a0 12 0).bind fun v52 =>
        (gaI E 0 h39 v52 (4 : Int32)).bind fun v56 =>
        if ¬ v56 = (8 : Int32) then
          (isO h39 a0 12).bind fun _ => cI (F_X12_more E a0 (4 : Int32) h39) fun v66 h66 =>
          (gfR h66 a0 12 0).bind fun v72 =>
          (paI E h66 v72 ((722 : Int32) + ((5 : Int32) * v66)) x1).bind fun h84 =>
          (gfR h84 a0 12 0).bind fun v86 =>
          (paI E h84 v86 (((722 : Int32) + ((5 : Int32) * v66)) + (1 : Int32)) x2).bind fun h100 =>
          (gfR h100 a0 12 0).bind fun v102 =>
          if x3 = 0 then
            J_X12_walker_124 E a0 x4 x5 v66 v102 (((722 : Int32) + ((5 : Int32) * v66)) + (2 : Int32)) (0 : Int32) h100
          else
            J_X12_walker_124 E a0 x4 x5 v66 v102 (((722 : Int32) + ((5 : Int32) * v66)) + (2 : Int32)) (1 : Int32) h100
        else
          rtI (-1 : Int32) h39
      else
        (isO h39 a0 12).bind fun _ => cI (F_X12_fails E a0 (2 : Int32) h39) fun v47 h47 =>
        rtI v47 h47
  else
    (isO h8 a0 12).bind fun _ => cI (F_X12_fails E a0 (1 : Int32) h8) fun v16 h16 =>
    rtI v16 h16
def F_X12_patience (E : Ev) (a0 : Nat) (x1 : Int32) (h : Hp) : Rs :=
  (gfR h a0 12 0).bind fun v1 =>
  (gaI E 0 h v1 (((722 : Int32) + ((5 : Int32) * x1)) + (4 : Int32))).bind fun v13 =>
  rtI v13 h
def F_X12_countsPaths (E : Ev) (a0 : Nat) (x1 : Int32) (h : Hp) : Rs :=
  (gfR h a0 12 0).bind fun v1 =>
  (gaI E 0 h v1 (((722 : Int32) + ((5 : Int32) * x1)) + (3 : Int32))).bind fun v13 =>
  if ¬ v13 = (1 : Int32) then
    rtZ (0 : Int32) h
  else
    rtZ (1 : Int32) h
def F_X12_kindsOf (E : Ev) (a0 : Nat) (x1 : Int32) (x2 : Int32) (h : Hp) : Rs :=
  (gfR h a0 12 0).bind fun v1 =>
  (gfR h a0 12 0).bind fun v10 =>
  (gaI E 0 h v10 ((722 : Int32) + ((5 : Int32) * x1))).bind fun v20 =>
  (gaI E 0 h v1 (((650 : Int32) + ((12 : Int32) * v20)) + x2)).bind fun v25 =>
  (gfR h a0 12 0).bind fun v27 =>
  (gaI E 0 h v27 (((722 : Int32) + ((5 : Int32) * x1)) + (1 : Int32))).bind fun v39 =>
  rtI (v25 &&& v39) h
def F_X12_isMark (E : Ev) (a0 : Nat) (x1 : Int32) (x2 : Int32) (x3 : Int32) (h : Hp) : Rs :=
  (gfR h a0 12 0).bind fun v2 =>
  (gaI E 0 h v2 (((450 : Int32) + ((5 : Int32) * x1)) + (1 : Int32))).bind fun v14 =>
  if ¬ ((x2 >>> (v14 &&& 31)) &&& (1 : Int32)) = (1 : Int32) then
    rtZ (0 : Int32) h
  else
    (gfR h a0 12 0).bind fun v25 =>
    (gaI E 0 h v25 (((450 : Int32) + ((5 : Int32) * x1)) + (3 : Int32))).bind fun v37 =>
    (gfR h a0 12 0).bind fun v40 =>
    (gaI E 0 h v40 (((450 : Int32) + ((5 : Int32) * x1)) + (4 : Int32))).bind fun v52 =>
    cI (F_X12_within E ((x3).toInt64) ((v37).toInt64) ((v52).toInt64) h) fun v54 h54 =>
    if v54 = 0 then
      rtZ (0 : Int32) h54
    else
      rtZ (1 : Int32) h54
def L_X12_standsAt_11 (E : Ev)  (y0 : Nat) (y3 : Int32) (y4 : Int32) (y5 : Int32) : Nat → Int32 → Hp → Rs
  | 0, _, _ => none
  | g + 1, y6, h =>
    (gfR h y0 12 0).bind fun v14 =>
    (gaI E 0 h v14 (2 : Int32)).bind fun v18 =>
    if v18 ≤ y6 then
      rtZ (0 : Int32) h
    else
      (gfR h y0 12 0).bind fun v23 =>
      (gaI E 0 h v23 ((450 : Int32) + ((5 : Int32) * y6))).bind fun v34 =>
      if ¬ v34 = y3 then
        L_X12_standsAt_11 E y0 y3 y4 y5 g (y6 + (1 : Int32)) h
      else
        (isO h y0 12).bind fun _ => cI (F_X12_isMark E y0 y6 y5 y4 h) fun v46 h46 =>
        if v46 = 0 then
          L_X12_standsAt_11 E y0 y3 y4 y5 g (y6 + (1 : Int32)) h46
        else
          rtZ (1 : Int32) h46
def F_X12_standsAt (E : Ev) (a0 : Nat) (x1 : Int32) (x2 : Int32) (x3 : Int32) (x4 : Int32) (h : Hp) : Rs :=
  (isO h a0 12).bind fun _ => cI (F_X12_kindsOf E a0 x1 x2 h) fun v3 h3 =>
  L_X12_standsAt_11 E a0 x3 x4 v3 E.2.2.1 (0 : Int32) h3
def J_X12_areJoined_46 (E : Ev) (K3 : Int32 → Hp → Rs) (y0 : Nat) (y1 : Int32) (y2 : Int32) (y3 : Int32) (y4 : Int32) (h : Hp) : Rs :=
  (isO h y0 12).bind fun _ => cI (F_X12_wayOf E y0 y4 (0 : Int32) h) fun v50 h50 =>
  if ¬ v50 = y2 then
    K3 (y4 + (1 : Int32)) h50
  else
    (isO h50 y0 12).bind fun _ => cI (F_X12_wayOf E y0 y4 (1 : Int32) h50) fun v61 h61 =>
    if ¬ v61 = y1 then
      K3 (y4 + (1 : Int32)) h61
    else
      rtZ (1 : Int32) h61
def L_X12_areJoined_3 (E : Ev)  (y0 : Nat) (y1 : Int32) (y2 : Int32) (y3 : Int32) : Nat → Int32 → Hp → Rs
  | 0, _, _ => none
  | g + 1, y4, h =>
    (gfR h y0 12 0).bind fun v6 =>
    (gaI E 0 h v6 (1 : Int32)).bind fun v10 =>
    if v10 ≤ y4 then
      rtZ (0 : Int32) h
    else
      (isO h y0 12).bind fun _ => cI (F_X12_isThere E y0 y4 y3 h) fun v18 h18 =>
      if v18 = 0 then
        L_X12_areJoined_3 E y0 y1 y2 y3 g (y4 + (1 : Int32)) h18
      else
        (isO h18 y0 12).bind fun _ => cI (F_X12_wayOf E y0 y4 (0 : Int32) h18) fun v28 h28 =>
        if ¬ v28 = y1 then
          J_X12_areJoined_46 E
            (fun w1 h2 =>
              L_X12_areJoined_3 E y0 y1 y2 y3 g w1 h2)
            y0 y1 y2 y3 y4 h28
        else
          (isO h28 y0 12).bind fun _ => cI (F_X12_wayOf E y0 y4 (1 : Int32) h28) fun v39 h39 =>
          if v39 = y2 then
            rtZ (1 : Int32) h39
          else
            J_X12_areJoined_46 E
              (fun w3 h4 =>
                L_X12_areJoined_3 E y0 y1 y2 y3 g w3 h4)
              y0 y1 y2 y3 y4 h39
def F_X12_areJoined (E : Ev) (a0 : Nat) (x1 : Int32) (x2 : Int32) (x3 : Int32) (h : Hp) : Rs :=
  L_X12_areJoined_3 E a0 x1 x2 x3 E.2.2.1 (0 : Int32) h
def L_X12_isSeenAt_25 (E : Ev)  (y0 : Nat) (y3 : Int32) (y4 : Int32) (y5 : Int32) : Nat → Int32 → Hp → Rs
  | 0, _, _ => none
  | g + 1, y6, h =>
    (gfR h y0 12 0).bind fun v28 =>
    (gaI E 0 h v28 (2 : Int32)).bind fun v32 =>
    if v32 ≤ y6 then
      rtZ (0 : Int32) h
    else
      (gfR h y0 12 0).bind fun v37 =>
      (gaI E 0 h v37 (((450 : Int32) + ((5 : Int32) * y6)) + (2 : Int32))).bind fun v50 =>
      if ¬ v50 = (1 : Int32) then
        L_X12_isSeenAt_25 E y0 y3 y4 y5 g (y6 + (1 : Int32)) h
      else
        (isO h y0 12).bind fun _ => cI (F_X12_isMark E y0 y6 y5 y4 h) fun v62 h62 =>
        if v62 = 0 then
          L_X12_isSeenAt_25 E y0 y3 y4 y5 g (y6 + (1 : Int32)) h62
        else
          (gfR h62 y0 12 0).bind fun v70 =>
          (gaI E 0 h62 v70 ((450 : Int32) + ((5 : Int32) * y6))).bind fun v81 =>
          (isO h62 y0 12).bind fun _ => cI (F_X12_areJoined E y0 v81 y3 y4 h62) fun v85 h85 =>
          if v85 = 0 then
            L_X12_isSeenAt_25 E y0 y3 y4 y5 g (y6 + (1 : Int32)) h85
          else
            rtZ (1 : Int32) h85
def F_X12_isSeenAt (E : Ev) (a0 : Nat) (x1 : Int32) (x2 : Int32) (x3 : Int32) (x4 : Int32) (h : Hp) : Rs :=
  (isO h a0 12).bind fun _ => cI (F_X12_standsAt E a0 x1 x2 x3 x4 h) fun v6 h6 =>
  if v6 = 0 then
    (isO h6 a0 12).bind fun _ => cI (F_X12_kindsOf E a0 x1 x2 h6) fun v17 h17 =>
    L_X12_isSeenAt_25 E a0 x3 x4 v17 E.2.2.1 (0 : Int32) h17
  else
    rtZ (1 : Int32) h6
def L_X12_standing_72 (E : Ev) (K114 : Hp → Rs) (y0 : Nat) (y3 : Int32) (y4 : Int32) : Nat → Int32 → Hp → Rs
  | 0, _, _ => none
  | g + 1, y5, h =>
    (gfR h y0 12 0).bind fun v76 =>
    (gaI E 0 h v76 (1 : Int32)).bind fun v80 =>
    if ((4 : Int32) * v80) ≤ y5 then
      K114 h
    else
      (isO h y0 12).bind fun _ => cI (F_X12_placeOf E y0 y5 h) fun v88 h88 =>
      if ¬ v88 = y4 then
        L_X12_standing_72 E K114 y0 y3 y4 g (y5 + (1 : Int32)) h88
      else
        (gfR h88 y0 12 6).bind fun v97 =>
        cV (F_X12_put E v97 ((4 : Int32) * y3) y5 h88) fun h105 =>
        L_X12_standing_72 E K114 y0 y3 y4 g (y5 + (1 : Int32)) h105
def L_X12_standing_40 (E : Ev)  (y0 : Nat) (y1 : Int32) (y2 : Int32) (y3 : Int32) : Nat → Int32 → Hp → Rs
  | 0, _, _ => none
  | g + 1, y4, h =>
    (gfR h y0 12 0).bind fun v43 =>
    (gaI E 0 h v43 (0 : Int32)).bind fun v47 =>
    if v47 ≤ y4 then
      rtI ((4 : Int32) * y3) h
    else
      (gfI h y0 12 4).bind fun v57 =>
      (isO h y0 12).bind fun _ => cI (F_X12_standsAt E y0 y1 y2 y4 v57 h) fun v60 h60 =>
      if ¬ v60 = 0 then
        L_X12_standing_72 E
          (fun h2 =>
            L_X12_standing_40 E y0 y1 y2 y3 g (y4 + (1 : Int32)) h2)
          y0 y3 y4 E.2.2.1 (0 : Int32) h60
      else
        L_X12_standing_40 E y0 y1 y2 y3 g (y4 + (1 : Int32)) h60
def F_X12_standing (E : Ev) (a0 : Nat) (x1 : Int32) (x2 : Int32) (h : Hp) : Rs :=
  lt (((12 : Int32) * x1) + x2) fun u1 =>
  (gfR h a0 12 7).bind fun v8 =>
  (gaI E 2 h v8 u1).bind fun v12 =>
  if v12 = 0 then
    (gfR h a0 12 7).bind fun v21 =>
    (paZ E h v21 u1 (1 : Int32)).bind fun h26 =>
    (gfR h26 a0 12 6).bind fun v28 =>
    cV (F_X12_empty E v28 ((4 : Int32) * u1) h26) fun h34 =>
    L_X12_standing_40 E a0 x1 x2 u1 E.2.2.1 (0 : Int32) h34
  else
    rtI ((4 : Int32) * u1) h
def F_X12_stands (E : Ev) (a0 : Nat) (x1 : Int32) (x2 : Int32) (x3 : Int32) (x4 : Int32) (x5 : Int32) (h : Hp) : Rs :=
  (pf h a0 12 3 (.int (0 : Int32))).bind fun h2 =>
  (isO h2 a0 12).bind fun _ => cI (F_X12_isWalker E a0 x1 h2) fun v7 h7 =>
  if v7 = 0 then
    (isO h7 a0 12).bind fun _ => cI (F_X12_fell E a0 (1 : Int32) h7) fun v30 h30 =>
    rtZ v30 h30
  else
    cI (F_X12_isName E x2 h7) fun v14 h14 =>
    if v14 = 0 then
      (isO h14 a0 12).bind fun _ => cI (F_X12_fell E a0 (1 : Int32) h14) fun v30 h30 =>
      rtZ v30 h30
    else
      (isO h14 a0 12).bind fun _ => cI (F_X12_isPlace E a0 x3 h14) fun v22 h22 =>
      if ¬ v22 = 0 then
        cI (F_X12_isYear E x4 h22) fun v36 h36 =>
        if ¬ v36 = 0 then
          if x5 = 0 then
            (isO h36 a0 12).bind fun _ => cI (F_X12_standsAt E a0 x1 x2 x3 x4 h36) fun v71 h71 =>
            rtZ v71 h71
          else
            (isO h36 a0 12).bind fun _ => cI (F_X12_isSeenAt E a0 x1 x2 x3 x4 h36) fun v59 h59 =>
            rtZ v59 h59
        else
          (isO h36 a0 12).bind fun _ => cI (F_X12_fell E a0 (2 : Int32) h36) fun v44 h44 =>
          rtZ v44 h44
      else
        (isO h22 a0 12).bind fun _ => cI (F_X12_fell E a0 (1 : Int32) h22) fun v30 h30 =>
        rtZ v30 h30
def L_X12_worth_86 (E : Ev)  (y0 : Nat) (y1 : Int32) (y3 : Int32) : Nat → Int32 → Int32 → Hp → Rs
  | 0, _, _, _ => none
  | g + 1, y5, y6, h =>
    (gfR h y0 12 0).bind fun v89 =>
    (gaI E 0 h v89 (2 : Int32)).bind fun v93 =>
    if v93 ≤ y6 then
      rtI y5 h
    else
      if y6 = y1 then
        L_X12_worth_86 E y0 y1 y3 g (y5 + (0 : Int32)) (y6 + (1 : Int32)) h
      else
        (gfR h y0 12 0).bind fun v106 =>
        (gaI E 0 h v106 (((450 : Int32) + ((5 : Int32) * y6)) + (1 : Int32))).bind fun v119 =>
        (gfR h y0 12 0).bind fun v121 =>
        (gaI E 0 h v121 (((450 : Int32) + ((5 : Int32) * y1)) + (1 : Int32))).bind fun v133 =>
        if ¬ v119 = v133 then
          L_X12_worth_86 E y0 y1 y3 g (y5 + (0 : Int32)) (y6 + (1 : Int32)) h
        else
          (isO h y0 12).bind fun _ => cI (F_X12_isMark E y0 y6 (4095 : Int32) y3 h) fun v144 h144 =>
          if v144 = 0 then
            L_X12_worth_86 E y0 y1 y3 g (y5 + (0 : Int32)) (y6 + (1 : Int32)) h144
          else
            L_X12_worth_86 E y0 y1 y3 g (y5 + (1 : Int32)) (y6 + (1 : Int32)) h144
def L_X12_worth_187 (E : Ev) (K213 : Int32 → Hp → Rs) (y0 : Nat) (y6 : Int32) : Nat → Int32 → Int32 → Hp → Rs
  | 0, _, _, _ => none
  | g + 1, y7, y8, h =>
    if (12 : Int32) ≤ y8 then
      K213 y7 h
    else
      (isO h y0 12).bind fun _ => cI (F_X12_kindsOf E y0 y6 y8 h) fun v201 h201 =>
      L_X12_worth_187 E K213 y0 y6 g (y7 ||| v201) (y8 + (1 : Int32)) h201
def L_X12_worth_170 (E : Ev)  (y0 : Nat) (y1 : Int32) (y2 : Int32) (y3 : Int32) : Nat → Int32 → Int32 → Hp → Rs
  | 0, _, _, _ => none
  | g + 1, y5, y6, h =>
    (gfR h y0 12 0).bind fun v173 =>
    (gaI E 0 h v173 (4 : Int32)).bind fun v177 =>
    if v177 ≤ y6 then
      rtI y5 h
    else
      L_X12_worth_187 E
        (fun w1 h3 =>
          if ¬ ((y2 >>> (y6 &&& 31)) &&& (1 : Int32)) = (1 : Int32) then
            L_X12_worth_170 E y0 y1 y2 y3 g (y5 + (0 : Int32)) (y6 + (1 : Int32)) h3
          else
            (isO h3 y0 12).bind fun _ => cI (F_X12_isMark E y0 y1 w1 y3 h3) fun v230 h230 =>
            if v230 = 0 then
              L_X12_worth_170 E y0 y1 y2 y3 g (y5 + (0 : Int32)) (y6 + (1 : Int32)) h230
            else
              L_X12_worth_170 E y0 y1 y2 y3 g (y5 + (1 : Int32)) (y6 + (1 : Int32)) h230)
        y0 y6 E.2.2.1 (0 : Int32) (0 : Int32) h
def F_X12_worth (E : Ev) (a0 : Nat) (x1 : Int32) (x2 : Int32) (x3 : Int32) (x4 : Int32) (h : Hp) : Rs :=
  (pf h a0 12 3 (.int (0 : Int32))).bind fun h2 =>
  (isO h2 a0 12).bind fun _ => cI (F_X12_is E a0 (2 : Int32) x1 h2) fun v8 h8 =>
  if ¬ v8 = 0 then
    if x2 < 0 then
      (isO h8 a0 12).bind fun _ => cI (F_X12_fails E a0 (2 : Int32) h8) fun v56 h56 =>
      rtI v56 h56
    else
      (gfR h8 a0 12 0).bind fun v27 =>
      (gaI E 0 h8 v27 (4 : Int32)).bind fun v31 =>
      if ((1 : Int32) <<< (v31 &&& 31)) ≤ x2 then
        (isO h8 a0 12).bind fun _ => cI (F_X12_fails E a0 (2 : Int32) h8) fun v56 h56 =>
        rtI v56 h56
      else
        cI (F_X12_isYear E x3 h8) fun v37 h37 =>
        if v37 = 0 then
          (isO h37 a0 12).bind fun _ => cI (F_X12_fails E a0 (2 : Int32) h37) fun v56 h56 =>
          rtI v56 h56
        else
          cI (F_X12_within E ((x4).toInt64) (0 : Int64) (1 : Int64) h37) fun v48 h48 =>
          if ¬ v48 = 0 then
            (isO h48 a0 12).bind fun _ => cI (F_X12_isMark E a0 x1 (4095 : Int32) x3 h48) fun v66 h66 =>
            if ¬ v66 = 0 then
              if ¬ x4 = (1 : Int32) then
                L_X12_worth_170 E a0 x1 x2 x3 E.2.2.1 (0 : Int32) (0 : Int32) h66
              else
                L_X12_worth_86 E a0 x1 x3 E.2.2.1 (0 : Int32) (0 : Int32) h66
            else
              rtI (-1 : Int32) h66
          else
            (isO h48 a0 12).bind fun _ => cI (F_X12_fails E a0 (2 : Int32) h48) fun v56 h56 =>
            rtI v56 h56
  else
    (isO h8 a0 12).bind fun _ => cI (F_X12_fails E a0 (1 : Int32) h8) fun v16 h16 =>
    rtI v16 h16
def J_X12_feed_76 (E : Ev) (K23 : Int32 → Hp → Rs) (y0 : Nat) (y1 : Int32) (y2 : Int32) (y3 : Int32) (y4 : Int32) (y5 : Int32) (y6 : Int32) (t0 : Int32) (h : Hp) : Rs :=
  (gfR h y0 12 9).bind fun v79 =>
  (gfI h y0 12 10).bind fun v83 =>
  (paI E h v79 v83 (((t0).toUInt32 >>> ((((24 : Int32) - ((8 : Int32) * (y6 &&& (3 : Int32))))).toUInt32 &&& Int32.toUInt32 31)).toInt32 &&& (255 : Int32))).bind fun h103 =>
  (gfI h103 y0 12 10).bind fun v106 =>
  (pf h103 y0 12 10 (.int (v106 + (1 : Int32)))).bind fun h111 =>
  K23 (y6 + (1 : Int32)) h111
def L_X12_feed_23 (E : Ev)  (y0 : Nat) (y1 : Int32) (y2 : Int32) (y3 : Int32) (y4 : Int32) (y5 : Int32) : Nat → Int32 → Hp → Rs
  | 0, _, _ => none
  | g + 1, y6, h =>
    if (20 : Int32) ≤ y6 then
      (gfI h y0 12 10).bind fun v121 =>
      rtI v121 h
    else
      if (4 : Int32) ≤ y6 then
        if (8 : Int32) ≤ y6 then
          if (12 : Int32) ≤ y6 then
            if (16 : Int32) ≤ y6 then
              J_X12_feed_76 E
                (fun w1 h3 =>
                  L_X12_feed_23 E y0 y1 y2 y3 y4 y5 g w1 h3)
                y0 y1 y2 y3 y4 y5 y6 y5 h
            else
              J_X12_feed_76 E
                (fun w4 h6 =>
                  L_X12_feed_23 E y0 y1 y2 y3 y4 y5 g w4 h6)
                y0 y1 y2 y3 y4 y5 y6 y4 h
          else
            J_X12_feed_76 E
              (fun w7 h9 =>
                L_X12_feed_23 E y0 y1 y2 y3 y4 y5 g w7 h9)
              y0 y1 y2 y3 y4 y5 y6 y3 h
        else
          J_X12_feed_76 E
            (fun w10 h12 =>
              L_X12_feed_23 E y0 y1 y2 y3 y4 y5 g w10 h12)
            y0 y1 y2 y3 y4 y5 y6 y2 h
      else
        J_X12_feed_76 E
          (fun w13 h15 =>
            L_X12_feed_23 E y0 y1 y2 y3 y4 y5 g w13 h15)
          y0 y1 y2 y3 y4 y5 y6 y1 h
def F_X12_feed (E : Ev) (a0 : Nat) (x1 : Int32) (x2 : Int32) (x3 : Int32) (x4 : Int32) (x5 : Int32) (h : Hp) : Rs :=
  (pf h a0 12 3 (.int (0 : Int32))).bind fun h2 =>
  (gfI h2 a0 12 10).bind fun v6 =>
  if (v6 + (20 : Int32)) ≤ (200 : Int32) then
    L_X12_feed_23 E a0 x1 x2 x3 x4 x5 E.2.2.1 (0 : Int32) h2
  else
    rtI (-1 : Int32) h2
def F_X12_see (E : Ev) (a0 : Nat) (x1 : Int32) (h : Hp) : Rs :=
  (gfI h a0 12 11).bind fun v2 =>
  if v2 ≤ x1 then
    rtI (0 : Int32) h
  else
    (gfR h a0 12 9).bind fun v9 =>
    (gaI E 0 h v9 x1).bind fun v13 =>
    rtI v13 h
def F_X12_isLetter (E : Ev) (x0 : Int32) (h : Hp) : Rs :=
  if x0 < (97 : Int32) then
    rtZ (0 : Int32) h
  else
    if (122 : Int32) < x0 then
      rtZ (0 : Int32) h
    else
      rtZ (1 : Int32) h
def F_X12_isDigit (E : Ev) (x0 : Int32) (h : Hp) : Rs :=
  if x0 < (48 : Int32) then
    rtZ (0 : Int32) h
  else
    if (57 : Int32) < x0 then
      rtZ (0 : Int32) h
    else
      rtZ (1 : Int32) h
def J_X12_next_39 (E : Ev) (K0 : Hp → Rs) (y0 : Nat) (h : Hp) : Rs :=
  (gfI h y0 12 12).bind fun v41 =>
  (pf h y0 12 12 (.int (v41 + (1 : Int32)))).bind fun h46 =>
  K0 h46
def L_X12_next_0 (E : Ev) (K52 : Hp → Rs) (y0 : Nat) : Nat → Hp → Rs
  | 0, _ => none
  | g + 1, h =>
    (gfI h y0 12 12).bind fun v1 =>
    (gfI h y0 12 11).bind fun v5 =>
    if v5 ≤ v1 then
      K52 h
    else
      (gfR h y0 12 9).bind fun v12 =>
      (gfI h y0 12 12).bind fun v16 =>
      (gaI E 0 h v12 v16).bind fun v19 =>
      if v19 = (32 : Int32) then
        J_X12_next_39 E
          (fun h1 =>
            L_X12_next_0 E K52 y0 g h1)
          y0 h
      else
        (gfR h y0 12 9).bind fun v26 =>
        (gfI h y0 12 12).bind fun v30 =>
        (gaI E 0 h v26 v30).bind fun v33 =>
        if ¬ v33 = (10 : Int32) then
          K52 h
        else
          J_X12_next_39 E
            (fun h2 =>
              L_X12_next_0 E K52 y0 g h2)
            y0 h
def J_X12_next_249 (E : Ev)  (y0 : Nat) (t0 : Nat) (t1 : Int32) (h : Hp) : Rs :=
  (pf h t0 12 14 (.int t1)).bind fun h249 =>
  (gfI h249 y0 12 12).bind fun v254 =>
  (pf h249 y0 12 12 (.int (v254 + (1 : Int32)))).bind fun h259 =>
  rtV h259
def J_X12_next_196 (E : Ev) (K141 : Hp → Rs) (y0 : Nat) (t0 : Nat) (t1 : Int32) (h : Hp) : Rs :=
  (pf h t0 12 15 (.int t1)).bind fun h196 =>
  (gfI h196 y0 12 12).bind fun v201 =>
  (pf h196 y0 12 12 (.int (v201 + (1 : Int32)))).bind fun h206 =>
  K141 h206
def L_X12_next_141 (E : Ev) (K212 : Hp → Rs) (y0 : Nat) : Nat → Hp → Rs
  | 0, _ => none
  | g + 1, h =>
    (gfI h y0 12 12).bind fun v143 =>
    (isO h y0 12).bind fun _ => cI (F_X12_see E y0 v143 h) fun v146 h146 =>
    cI (F_X12_isDigit E v146 h146) fun v149 h149 =>
    if v149 = 0 then
      K212 h149
    else
      (gfI h149 y0 12 12).bind fun v157 =>
      (gfI h149 y0 12 13).bind fun v161 =>
      if (2 : Int32) ≤ (v157 - v161) then
        (gfI h149 y0 12 15).bind fun v193 =>
        J_X12_next_196 E
          (fun h1 =>
            L_X12_next_141 E K212 y0 g h1)
          y0 y0 v193 h149
      else
        (gfI h149 y0 12 15).bind fun v172 =>
        (gfR h149 y0 12 9).bind fun v177 =>
        (gfI h149 y0 12 12).bind fun v181 =>
        (gaI E 0 h149 v177 v181).bind fun v184 =>
        J_X12_next_196 E
          (fun h2 =>
            L_X12_next_141 E K212 y0 g h2)
          y0 y0 ((((10 : Int32) * v172) + v184) - (48 : Int32)) h149
def L_X12_next_94 (E : Ev)  (y0 : Nat) : Nat → Hp → Rs
  | 0, _ => none
  | g + 1, h =>
    (gfI h y0 12 12).bind fun v96 =>
    (isO h y0 12).bind fun _ => cI (F_X12_see E y0 v96 h) fun v99 h99 =>
    cI (F_X12_isLetter E v99 h99) fun v102 h102 =>
    if v102 = 0 then
      (pf h102 y0 12 14 (.int (1 : Int32))).bind fun h123 =>
      rtV h123
    else
      (gfI h102 y0 12 12).bind fun v110 =>
      (pf h102 y0 12 12 (.int (v110 + (1 : Int32)))).bind fun h115 =>
      L_X12_next_94 E y0 g h115
def J_X12_next_52 (E : Ev)  (y0 : Nat) (h : Hp) : Rs :=
  (gfI h y0 12 12).bind fun v54 =>
  (pf h y0 12 13 (.int v54)).bind fun h57 =>
  (gfI h57 y0 12 12).bind fun v61 =>
  (gfI h57 y0 12 11).bind fun v65 =>
  if v61 < v65 then
    (gfR h57 y0 12 9).bind fun v78 =>
    (gfI h57 y0 12 12).bind fun v82 =>
    (gaI E 0 h57 v78 v82).bind fun v85 =>
    cI (F_X12_isLetter E v85 h57) fun v88 h88 =>
    if v88 = 0 then
      cI (F_X12_isDigit E v85 h88) fun v130 h130 =>
      if v130 = 0 then
        if ¬ v85 = (59 : Int32) then
          J_X12_next_249 E y0 y0 (4 : Int32) h130
        else
          J_X12_next_249 E y0 y0 (3 : Int32) h130
      else
        (pf h130 y0 12 15 (.int (0 : Int32))).bind fun h138 =>
        L_X12_next_141 E
          (fun h1 =>
            (gfI h1 y0 12 12).bind fun v214 =>
            (gfI h1 y0 12 13).bind fun v218 =>
            if (v214 - v218) ≤ (2 : Int32) then
              (pf h1 y0 12 14 (.int (2 : Int32))).bind fun h231 =>
              rtV h231
            else
              (pf h1 y0 12 14 (.int (4 : Int32))).bind fun h231 =>
              rtV h231)
          y0 E.2.2.1 h138
    else
      L_X12_next_94 E y0 E.2.2.1 h88
  else
    (pf h57 y0 12 14 (.int (0 : Int32))).bind fun h73 =>
    rtV h73
def F_X12_next (E : Ev) (a0 : Nat) (h : Hp) : Rs :=
  L_X12_next_0 E
    (fun h1 =>
      J_X12_next_52 E a0 h1)
    a0 E.2.2.1 h
def F_X12_wrong (E : Ev) (a0 : Nat) (x1 : Int32) (h : Hp) : Rs :=
  (gfI h a0 12 16).bind fun v1 =>
  if v1 = 0 then
    (gfI h a0 12 14).bind fun v10 =>
    if ¬ v10 = (4 : Int32) then
      (pf h a0 12 16 (.int x1)).bind fun h22 =>
      (gfI h22 a0 12 13).bind fun v27 =>
      (pf h22 a0 12 17 (.int v27)).bind fun h30 =>
      rtV h30
    else
      (pf h a0 12 16 (.int (1 : Int32))).bind fun h22 =>
      (gfI h22 a0 12 13).bind fun v27 =>
      (pf h22 a0 12 17 (.int v27)).bind fun h30 =>
      rtV h30
  else
    rtV h
def L_X12_isWord_39 (E : Ev)  (y0 : Nat) (y1 : Nat) : Nat → Int32 → Int32 → Hp → Rs
  | 0, _, _, _ => none
  | g + 1, y2, y3, h =>
    if y2 = 0 then
      rtZ y2 h
    else
      (sLn y1).bind fun v45 =>
      if v45 ≤ y3 then
        rtZ y2 h
      else
        (gfR h y0 12 9).bind fun v52 =>
        (gfI h y0 12 13).bind fun v56 =>
        (gaI E 0 h v52 (v56 + y3)).bind fun v61 =>
        (sCh y1 y3).bind fun v64 =>
        if ¬ v61 = v64 then
          L_X12_isWord_39 E y0 y1 g (0 : Int32) (y3 + (1 : Int32)) h
        else
          L_X12_isWord_39 E y0 y1 g (1 : Int32) (y3 + (1 : Int32)) h
def F_X12_isWord (E : Ev) (a0 : Nat) (j1 : Nat) (h : Hp) : Rs :=
  (gfI h a0 12 16).bind fun v1 =>
  if ¬ v1 = 0 then
    L_X12_isWord_39 E a0 j1 E.2.2.1 (0 : Int32) (0 : Int32) h
  else
    (gfI h a0 12 14).bind fun v8 =>
    if ¬ v8 = (1 : Int32) then
      L_X12_isWord_39 E a0 j1 E.2.2.1 (0 : Int32) (0 : Int32) h
    else
      (gfI h a0 12 12).bind fun v16 =>
      (gfI h a0 12 13).bind fun v20 =>
      (sLn j1).bind fun v25 =>
      if ¬ (v16 - v20) = v25 then
        L_X12_isWord_39 E a0 j1 E.2.2.1 (0 : Int32) (0 : Int32) h
      else
        L_X12_isWord_39 E a0 j1 E.2.2.1 (1 : Int32) (0 : Int32) h
def F_X12_nameNow (E : Ev) (a0 : Nat) (h : Hp) : Rs :=
  (isO h a0 12).bind fun _ => cI (F_X12_isWord E a0 1 h) fun v4 h4 =>
  if v4 = 0 then
    (isO h4 a0 12).bind fun _ => cI (F_X12_isWord E a0 2 h4) fun v18 h18 =>
    if v18 = 0 then
      (isO h18 a0 12).bind fun _ => cI (F_X12_isWord E a0 3 h18) fun v32 h32 =>
      if v32 = 0 then
        (isO h32 a0 12).bind fun _ => cI (F_X12_isWord E a0 4 h32) fun v46 h46 =>
        if v46 = 0 then
          (isO h46 a0 12).bind fun _ => cI (F_X12_isWord E a0 5 h46) fun v60 h60 =>
          if v60 = 0 then
            (isO h60 a0 12).bind fun _ => cI (F_X12_isWord E a0 6 h60) fun v74 h74 =>
            if v74 = 0 then
              (isO h74 a0 12).bind fun _ => cI (F_X12_isWord E a0 7 h74) fun v88 h88 =>
              if v88 = 0 then
                (isO h88 a0 12).bind fun _ => cI (F_X12_isWord E a0 8 h88) fun v103 h103 =>
                if v103 = 0 then
                  (isO h103 a0 12).bind fun _ => cI (F_X12_isWord E a0 9 h103) fun v118 h118 =>
                  if v118 = 0 then
                    (isO h118 a0 12).bind fun _ => cI (F_X12_isWord E a0 10 h118) fun v133 h133 =>
                    if v133 = 0 then
                      (isO h133 a0 12).bind fun _ => cI (F_X12_isWord E a0 11 h133) fun v148 h148 =>
                      if v148 = 0 then
                        (isO h148 a0 12).bind fun _ => cI (F_X12_isWord E a0 12 h148) fun v163 h163 =>
                        if v163 = 0 then
                          rtI (-1 : Int32) h163
                        else
                          rtI (11 : Int32) h163
                      else
                        rtI (10 : Int32) h148
                    else
                      rtI (9 : Int32) h133
                  else
                    rtI (8 : Int32) h118
                else
                  rtI (7 : Int32) h103
              else
                rtI (6 : Int32) h88
            else
              rtI (5 : Int32) h74
          else
            rtI (4 : Int32) h60
        else
          rtI (3 : Int32) h46
      else
        rtI (2 : Int32) h32
    else
      rtI (1 : Int32) h18
  else
    rtI (0 : Int32) h4
def F_X12_readName (E : Ev) (a0 : Nat) (h : Hp) : Rs :=
  (isO h a0 12).bind fun _ => cI (F_X12_nameNow E a0 h) fun v1 h1 =>
  if ¬ v1 = (-1 : Int32) then
    (isO h1 a0 12).bind fun _ => cV (F_X12_next E a0 h1) fun h19 =>
    rtI v1 h19
  else
    (isO h1 a0 12).bind fun _ => cV (F_X12_wrong E a0 (2 : Int32) h1) fun h12 =>
    rtI v1 h12
def J_X12_readNumber_36 (E : Ev)  (y0 : Nat) (h : Hp) : Rs :=
  (gfI h y0 12 15).bind fun v37 =>
  (gfI h y0 12 16).bind fun v42 =>
  if ¬ v42 = 0 then
    rtI v37 h
  else
    (isO h y0 12).bind fun _ => cV (F_X12_next E y0 h) fun h49 =>
    rtI v37 h49
def F_X12_readNumber (E : Ev) (a0 : Nat) (h : Hp) : Rs :=
  (gfI h a0 12 14).bind fun v1 =>
  if v1 = (2 : Int32) then
    (gfI h a0 12 15).bind fun v17 =>
    cI (F_X12_within E ((v17).toInt64) (1 : Int64) (20 : Int64) h) fun v25 h25 =>
    if ¬ v25 = 0 then
      J_X12_readNumber_36 E a0 h25
    else
      (isO h25 a0 12).bind fun _ => cV (F_X12_wrong E a0 (3 : Int32) h25) fun h33 =>
      J_X12_readNumber_36 E a0 h33
  else
    (isO h a0 12).bind fun _ => cV (F_X12_wrong E a0 (2 : Int32) h) fun h10 =>
    J_X12_readNumber_36 E a0 h10
def F_X12_sideNow (E : Ev) (a0 : Nat) (h : Hp) : Rs :=
  (isO h a0 12).bind fun _ => cI (F_X12_isWord E a0 13 h) fun v4 h4 =>
  if v4 = 0 then
    (isO h4 a0 12).bind fun _ => cI (F_X12_isWord E a0 14 h4) fun v18 h18 =>
    if v18 = 0 then
      rtI (-1 : Int32) h18
    else
      rtI (1 : Int32) h18
  else
    rtI (0 : Int32) h4
def F_X12_wordAt (E : Ev) (x0 : Int32) (x1 : Int32) (h : Hp) : Rs :=
  rtI (((13 : Int32) + ((16 : Int32) * x0)) + ((4 : Int32) * x1)) h
def F_X12_lays (E : Ev) (a0 : Nat) (x1 : Int32) (x2 : Int32) (x3 : Int32) (x4 : Int32) (h : Hp) : Rs :=
  (gfI h a0 12 16).bind fun v1 =>
  if v1 = 0 then
    (gfR h a0 12 20).bind fun v10 =>
    (gaI E 0 h v10 ((3 : Int32) + x1)).bind fun v16 =>
    cI (F_X12_wordAt E x1 v16 h) fun v17 h17 =>
    (gfR h17 a0 12 20).bind fun v23 =>
    (paI E h17 v23 v17 x2).bind fun h29 =>
    (gfR h29 a0 12 20).bind fun v31 =>
    (paI E h29 v31 (v17 + (1 : Int32)) x3).bind fun h39 =>
    (gfR h39 a0 12 20).bind fun v41 =>
    (paI E h39 v41 (v17 + (2 : Int32)) x4).bind fun h50 =>
    (gfR h50 a0 12 20).bind fun v52 =>
    (gaI E 0 h50 v52 ((3 : Int32) + x1)).bind fun v59 =>
    (paI E h50 v52 ((3 : Int32) + x1) (v59 + (1 : Int32))).bind fun h62 =>
    rtV h62
  else
    rtV h
def F_X12_isBegun (E : Ev) (a0 : Nat) (h : Hp) : Rs :=
  (isO h a0 12).bind fun _ => cI (F_X12_isWord E a0 15 h) fun v4 h4 =>
  if ¬ v4 = 0 then
    rtZ (1 : Int32) h4
  else
    (isO h4 a0 12).bind fun _ => cI (F_X12_isWord E a0 16 h4) fun v14 h14 =>
    if ¬ v14 = 0 then
      rtZ (1 : Int32) h14
    else
      (isO h14 a0 12).bind fun _ => cI (F_X12_isWord E a0 17 h14) fun v24 h24 =>
      if ¬ v24 = 0 then
        rtZ (1 : Int32) h24
      else
        (isO h24 a0 12).bind fun _ => cI (F_X12_isWord E a0 18 h24) fun v34 h34 =>
        if ¬ v34 = 0 then
          rtZ (1 : Int32) h34
        else
          (isO h34 a0 12).bind fun _ => cI (F_X12_isWord E a0 19 h34) fun v44 h44 =>
          if ¬ v44 = 0 then
            rtZ (1 : Int32) h44
          else
            (isO h44 a0 12).bind fun _ => cI (F_X12_isWord E a0 20 h44) fun v54 h54 =>
            if ¬ v54 = 0 then
              rtZ (1 : Int32) h54
            else
              (isO h54 a0 12).bind fun _ => cI (F_X12_isWord E a0 21 h54) fun v64 h64 =>
              if ¬ v64 = 0 then
                rtZ (1 : Int32) h64
              else
                (isO h64 a0 12).bind fun _ => cI (F_X12_sideNow E a0 h64) fun v71 h71 =>
                if ¬ v71 = (-1 : Int32) then
                  rtZ (1 : Int32) h71
                else
                  (gfI h71 a0 12 16).bind fun v79 =>
                  if ¬ v79 = 0 then
                    rtZ (0 : Int32) h71
                  else
                    (gfI h71 a0 12 14).bind fun v86 =>
                    if ¬ v86 = (2 : Int32) then
                      rtZ (0 : Int32) h71
                    else
                      rtZ (1 : Int32) h71
def J_X12_readNth_56 (E : Ev)  (y0 : Nat) (y1 : Int32) (y2 : Int32) (y3 : Int32) (y4 : Int32) (h : Hp) : Rs :=
  (isO h y0 12).bind fun _ => cV (F_X12_lays E y0 y1 (9 : Int32) (((2 : Int32) * y2) + y3) y4 h) fun h67 =>
  rtV h67
def F_X12_readNth (E : Ev) (a0 : Nat) (x1 : Int32) (h : Hp) : Rs :=
  (isO h a0 12).bind fun _ => cI (F_X12_readNumber E a0 h) fun v1 h1 =>
  (isO h1 a0 12).bind fun _ => cI (F_X12_sideNow E a0 h1) fun v6 h6 =>
  (gfI h6 a0 12 16).bind fun v11 =>
  if v11 = 0 then
    if ¬ v6 = (-1 : Int32) then
      (isO h6 a0 12).bind fun _ => cV (F_X12_next E a0 h6) fun h30 =>
      (isO h30 a0 12).bind fun _ => cI (F_X12_isWord E a0 23 h30) fun v40 h40 =>
      if v40 = 0 then
        J_X12_readNth_56 E a0 x1 v1 v6 (-1 : Int32) h40
      else
        (isO h40 a0 12).bind fun _ => cV (F_X12_next E a0 h40) fun h47 =>
        (isO h47 a0 12).bind fun _ => cI (F_X12_readName E a0 h47) fun v51 h51 =>
        J_X12_readNth_56 E a0 x1 v1 v6 v51 h51
    else
      (isO h6 a0 12).bind fun _ => cV (F_X12_wrong E a0 (2 : Int32) h6) fun h25 =>
      rtV h25
  else
    rtV h6
def J_X12_readWord_113 (E : Ev)  (y0 : Nat) (y1 : Int32) (y3 : Int32) (y4 : Int32) (t0 : Int32) (h : Hp) : Rs :=
  if y3 = 0 then
    (isO h y0 12).bind fun _ => cV (F_X12_lays E y0 y1 (0 : Int32) t0 y4 h) fun h130 =>
    rtV h130
  else
    (isO h y0 12).bind fun _ => cV (F_X12_lays E y0 y1 (1 : Int32) t0 y4 h) fun h130 =>
    rtV h130
def J_X12_readWord_99 (E : Ev)  (y0 : Nat) (y1 : Int32) (y3 : Int32) (t0 : Int32) (h : Hp) : Rs :=
  if y3 = 0 then
    (isO h y0 12).bind fun _ => cI (F_X12_readNumber E y0 h) fun v110 h110 =>
    J_X12_readWord_113 E y0 y1 y3 t0 v110 h110
  else
    J_X12_readWord_113 E y0 y1 y3 t0 (0 : Int32) h
def J_X12_readWord_87 (E : Ev)  (y0 : Nat) (y1 : Int32) (y3 : Int32) (h : Hp) : Rs :=
  if y3 = 0 then
    J_X12_readWord_99 E y0 y1 y3 (-1 : Int32) h
  else
    (isO h y0 12).bind fun _ => cI (F_X12_readName E y0 h) fun v92 h92 =>
    J_X12_readWord_99 E y0 y1 y3 v92 h92
def J_X12_readWord_203 (E : Ev)  (y0 : Nat) (y1 : Int32) (t0 : Int32) (h : Hp) : Rs :=
  (isO h y0 12).bind fun _ => cV (F_X12_next E y0 h) fun h205 =>
  (isO h205 y0 12).bind fun _ => cV (F_X12_lays E y0 y1 t0 (0 : Int32) (-1 : Int32) h205) fun h213 =>
  rtV h213
def J_X12_readWord_186 (E : Ev)  (y0 : Nat) (y1 : Int32) (h : Hp) : Rs :=
  (isO h y0 12).bind fun _ => cI (F_X12_isWord E y0 20 h) fun v190 h190 =>
  if v190 = 0 then
    J_X12_readWord_203 E y0 y1 (7 : Int32) h190
  else
    J_X12_readWord_203 E y0 y1 (6 : Int32) h190
def J_X12_readWord_248 (E : Ev)  (y0 : Nat) (y1 : Int32) (t0 : Int32) (h : Hp) : Rs :=
  (isO h y0 12).bind fun _ => cV (F_X12_next E y0 h) fun h250 =>
  (isO h250 y0 12).bind fun _ => cI (F_X12_readName E y0 h250) fun v254 h254 =>
  (isO h254 y0 12).bind fun _ => cV (F_X12_lays E y0 y1 t0 (0 : Int32) v254 h254) fun h265 =>
  rtV h265
def F_X12_readWord (E : Ev) (a0 : Nat) (x1 : Int32) (h : Hp) : Rs :=
  (isO h a0 12).bind fun _ => cI (F_X12_sideNow E a0 h) fun v1 h1 =>
  (isO h1 a0 12).bind fun _ => cI (F_X12_isBegun E a0 h1) fun v6 h6 =>
  if ¬ v6 = 0 then
    (gfI h6 a0 12 14).bind fun v21 =>
    if ¬ v21 = (2 : Int32) then
      if v1 = (-1 : Int32) then
        (isO h6 a0 12).bind fun _ => cI (F_X12_isWord E a0 15 h6) fun v61 h61 =>
        if v61 = 0 then
          (isO h61 a0 12).bind fun _ => cI (F_X12_isWord E a0 17 h61) fun v140 h140 =>
          if v140 = 0 then
            (isO h140 a0 12).bind fun _ => cI (F_X12_isWord E a0 20 h140) fun v170 h170 =>
            if ¬ v170 = 0 then
              J_X12_readWord_186 E a0 x1 h170
            else
              (isO h170 a0 12).bind fun _ => cI (F_X12_isWord E a0 21 h170) fun v180 h180 =>
              if v180 = 0 then
                (isO h180 a0 12).bind fun _ => cI (F_X12_isWord E a0 16 h180) fun v223 h223 =>
                if v223 = 0 then
                  (isO h223 a0 12).bind fun _ => cI (F_X12_isWord E a0 18 h223) fun v237 h237 =>
                  if v237 = 0 then
                    J_X12_readWord_248 E a0 x1 (5 : Int32) h237
                  else
                    J_X12_readWord_248 E a0 x1 (4 : Int32) h237
                else
                  J_X12_readWord_248 E a0 x1 (2 : Int32) h223
              else
                J_X12_readWord_186 E a0 x1 h180
          else
            (isO h140 a0 12).bind fun _ => cV (F_X12_next E a0 h140) fun h147 =>
            (isO h147 a0 12).bind fun _ => cI (F_X12_readNumber E a0 h147) fun v151 h151 =>
            (isO h151 a0 12).bind fun _ => cV (F_X12_lays E a0 x1 (3 : Int32) v151 (-1 : Int32) h151) fun h160 =>
            rtV h160
        else
          (isO h61 a0 12).bind fun _ => cV (F_X12_next E a0 h61) fun h68 =>
          (isO h68 a0 12).bind fun _ => cI (F_X12_isWord E a0 22 h68) fun v75 h75 =>
          if v75 = 0 then
            J_X12_readWord_87 E a0 x1 v75 h75
          else
            (isO h75 a0 12).bind fun _ => cV (F_X12_next E a0 h75) fun h84 =>
            J_X12_readWord_87 E a0 x1 v75 h84
      else
        (isO h6 a0 12).bind fun _ => cV (F_X12_next E a0 h6) fun h42 =>
        (isO h42 a0 12).bind fun _ => cV (F_X12_lays E a0 x1 (8 : Int32) v1 (-1 : Int32) h42) fun h51 =>
        rtV h51
    else
      (isO h6 a0 12).bind fun _ => cV (F_X12_readNth E a0 x1 h6) fun h30 =>
      rtV h30
  else
    (isO h6 a0 12).bind fun _ => cV (F_X12_wrong E a0 (2 : Int32) h6) fun h14 =>
    rtV h14
def J_X12_readSaying_97 (E : Ev) (K77 : Int32 → Hp → Rs) (y0 : Nat) (y1 : Int32) (y2 : Int32) (h : Hp) : Rs :=
  (gfI h y0 12 16).bind fun v98 =>
  if v98 = 0 then
    (isO h y0 12).bind fun _ => cV (F_X12_next E y0 h) fun h106 =>
    (isO h106 y0 12).bind fun _ => cV (F_X12_readWord E y0 y1 h106) fun h111 =>
    K77 (y2 + (1 : Int32)) h111
  else
    rtV h
def L_X12_readSaying_77 (E : Ev) (K120 : Hp → Rs) (y0 : Nat) (y1 : Int32) : Nat → Int32 → Hp → Rs
  | 0, _, _ => none
  | g + 1, y2, h =>
    (isO h y0 12).bind fun _ => cI (F_X12_isWord E y0 24 h) fun v81 h81 =>
    if v81 = 0 then
      K120 h81
    else
      if ¬ y2 = (3 : Int32) then
        J_X12_readSaying_97 E
          (fun w1 h2 =>
            L_X12_readSaying_77 E K120 y0 y1 g w1 h2)
          y0 y1 y2 h81
      else
        (isO h81 y0 12).bind fun _ => cV (F_X12_wrong E y0 (4 : Int32) h81) fun h94 =>
        J_X12_readSaying_97 E
          (fun w3 h4 =>
            L_X12_readSaying_77 E K120 y0 y1 g w3 h4)
          y0 y1 y2 h94
def J_X12_readSaying_53 (E : Ev)  (y0 : Nat) (y1 : Int32) (h : Hp) : Rs :=
  (gfI h y0 12 16).bind fun v54 =>
  if v54 = 0 then
    (gfR h y0 12 20).bind fun v62 =>
    (paI E h v62 ((3 : Int32) + y1) (0 : Int32)).bind fun h69 =>
    (isO h69 y0 12).bind fun _ => cV (F_X12_readWord E y0 y1 h69) fun h72 =>
    L_X12_readSaying_77 E
      (fun h2 =>
        (gfI h2 y0 12 16).bind fun v121 =>
        if v121 = 0 then
          (gfI h2 y0 12 14).bind fun v129 =>
          if ¬ v129 = (3 : Int32) then
            (isO h2 y0 12).bind fun _ => cV (F_X12_wrong E y0 (2 : Int32) h2) fun h145 =>
            rtV h145
          else
            (isO h2 y0 12).bind fun _ => cV (F_X12_next E y0 h2) fun h137 =>
            rtV h137
        else
          rtV h2)
      y0 y1 E.2.2.1 (0 : Int32) h72
  else
    rtV h
def F_X12_readSaying (E : Ev) (a0 : Nat) (x1 : Int32) (h : Hp) : Rs :=
  (isO h a0 12).bind fun _ => cI (F_X12_isBegun E a0 h) fun v1 h1 =>
  if ¬ v1 = 0 then
    if ¬ x1 = (10 : Int32) then
      J_X12_readSaying_53 E a0 x1 h1
    else
      (gfI h1 a0 12 14).bind fun v23 =>
      if ¬ v23 = (2 : Int32) then
        (isO h1 a0 12).bind fun _ => cV (F_X12_wrong E a0 (4 : Int32) h1) fun h50 =>
        J_X12_readSaying_53 E a0 x1 h50
      else
        (gfI h1 a0 12 15).bind fun v31 =>
        cI (F_X12_within E ((v31).toInt64) (1 : Int64) (20 : Int64) h1) fun v39 h39 =>
        if ¬ v39 = 0 then
          (isO h39 a0 12).bind fun _ => cV (F_X12_wrong E a0 (4 : Int32) h39) fun h50 =>
          J_X12_readSaying_53 E a0 x1 h50
        else
          (isO h39 a0 12).bind fun _ => cV (F_X12_wrong E a0 (3 : Int32) h39) fun h50 =>
          J_X12_readSaying_53 E a0 x1 h50
  else
    (isO h1 a0 12).bind fun _ => cV (F_X12_wrong E a0 (2 : Int32) h1) fun h9 =>
    J_X12_readSaying_53 E a0 x1 h9
def L_X12_keeps_31 (E : Ev)  (y0 : Nat) (y4 : Int32) : Nat → Int32 → Hp → Rs
  | 0, _, _ => none
  | g + 1, y5, h =>
    if (173 : Int32) ≤ y5 then
      rtI y4 h
    else
      (gfR h y0 12 0).bind fun v40 =>
      (gfR h y0 12 20).bind fun v57 =>
      (gaI E 0 h v57 y5).bind fun v62 =>
      (paI E h v40 (((762 : Int32) + ((173 : Int32) * y4)) + y5) v62).bind fun h63 =>
      L_X12_keeps_31 E y0 y4 g (y5 + (1 : Int32)) h63
def F_X12_keeps (E : Ev) (a0 : Nat) (x1 : Int32) (x2 : Int32) (x3 : Int32) (h : Hp) : Rs :=
  (isO h a0 12).bind fun _ => cI (F_X12_more E a0 (5 : Int32) h) fun v2 h2 =>
  (gfR h2 a0 12 20).bind fun v8 =>
  (paI E h2 v8 (0 : Int32) x1).bind fun h13 =>
  (gfR h13 a0 12 20).bind fun v15 =>
  (paI E h13 v15 (1 : Int32) x2).bind fun h20 =>
  (gfR h20 a0 12 20).bind fun v22 =>
  (paI E h20 v22 (2 : Int32) x3).bind fun h27 =>
  L_X12_keeps_31 E a0 v2 E.2.2.1 (0 : Int32) h27
def L_X12_telling_91 (E : Ev) (K117 : Int32 → Hp → Rs) (y0 : Nat) : Nat → Int32 → Hp → Rs
  | 0, _, _ => none
  | g + 1, y4, h =>
    (gfI h y0 12 16).bind fun v92 =>
    if ¬ v92 = 0 then
      K117 y4 h
    else
      (gfI h y0 12 14).bind fun v99 =>
      if v99 = 0 then
        K117 y4 h
      else
        (isO h y0 12).bind fun _ => cV (F_X12_readSaying E y0 y4 h) fun h108 =>
        L_X12_telling_91 E K117 y0 g (y4 + (1 : Int32)) h108
def J_X12_telling_141 (E : Ev)  (y0 : Nat) (y2 : Int32) (y3 : Int32) (y4 : Int32) (t0 : Nat) (t1 : Int32) (h : Hp) : Rs :=
  (pf h t0 12 19 (.int t1)).bind fun h141 =>
  (gfI h141 y0 12 16).bind fun v145 =>
  if v145 = 0 then
    (isO h141 y0 12).bind fun _ => cI (F_X12_keeps E y0 y2 y3 y4 h141) fun v166 h166 =>
    rtI v166 h166
  else
    (gfI h141 y0 12 16).bind fun v154 =>
    rtI ((-10 : Int32) - v154) h141
def J_X12_telling_117 (E : Ev)  (y0 : Nat) (y2 : Int32) (y3 : Int32) (y4 : Int32) (h : Hp) : Rs :=
  (gfI h y0 12 16).bind fun v119 =>
  (pf h y0 12 18 (.int v119)).bind fun h122 =>
  (gfI h122 y0 12 16).bind fun v127 =>
  if ¬ v127 = 0 then
    (gfI h122 y0 12 17).bind fun v138 =>
    J_X12_telling_141 E y0 y2 y3 y4 y0 v138 h122
  else
    J_X12_telling_141 E y0 y2 y3 y4 y0 (-1 : Int32) h122
def F_X12_telling (E : Ev) (a0 : Nat) (x1 : Int32) (x2 : Int32) (x3 : Int32) (h : Hp) : Rs :=
  (pf h a0 12 3 (.int (0 : Int32))).bind fun h2 =>
  (isO h2 a0 12).bind fun _ => cI (F_X12_isPlace E a0 x2 h2) fun v7 h7 =>
  if ¬ v7 = 0 then
    (gfI h7 a0 12 10).bind fun v23 =>
    cI (F_X12_within E ((x1).toInt64) (0 : Int64) ((v23).toInt64) h7) fun v27 h27 =>
    if v27 = 0 then
      (isO h27 a0 12).bind fun _ => cI (F_X12_fails E a0 (2 : Int32) h27) fun v47 h47 =>
      rtI v47 h47
    else
      cI (F_X12_within E ((x3).toInt64) (0 : Int64) (9 : Int64) h27) fun v39 h39 =>
      if ¬ v39 = 0 then
        (gfR h39 a0 12 0).bind fun v52 =>
        (gaI E 0 h39 v52 (5 : Int32)).bind fun v56 =>
        if ¬ v56 = (12 : Int32) then
          (pf h39 a0 12 11 (.int x1)).bind fun h66 =>
          (pf h66 a0 12 10 (.int (0 : Int32))).bind fun h71 =>
          (pf h71 a0 12 12 (.int (0 : Int32))).bind fun h76 =>
          (pf h76 a0 12 16 (.int (0 : Int32))).bind fun h81 =>
          (isO h81 a0 12).bind fun _ => cV (F_X12_next E a0 h81) fun h88 =>
          L_X12_telling_91 E
            (fun w1 h2 =>
              J_X12_telling_117 E a0 x2 x3 w1 h2)
            a0 E.2.2.1 (0 : Int32) h88
        else
          rtI (-1 : Int32) h39
      else
        (isO h39 a0 12).bind fun _ => cI (F_X12_fails E a0 (2 : Int32) h39) fun v47 h47 =>
        rtI v47 h47
  else
    (isO h7 a0 12).bind fun _ => cI (F_X12_fails E a0 (1 : Int32) h7) fun v15 h15 =>
    rtI v15 h15
def F_X12_fault (E : Ev) (a0 : Nat) (x1 : Int32) (h : Hp) : Rs :=
  (pf h a0 12 3 (.int (0 : Int32))).bind fun h2 =>
  if ¬ x1 = 0 then
    if ¬ x1 = (1 : Int32) then
      rtI (-1 : Int32) h2
    else
      (gfI h2 a0 12 19).bind fun v22 =>
      rtI v22 h2
  else
    (gfI h2 a0 12 18).bind fun v10 =>
    rtI v10 h2
def F_X12_sayingsOf (E : Ev) (a0 : Nat) (x1 : Int32) (h : Hp) : Rs :=
  (gfR h a0 12 0).bind fun v1 =>
  (gaI E 0 h v1 (((762 : Int32) + ((173 : Int32) * x1)) + (2 : Int32))).bind fun v15 =>
  rtI v15 h
def F_X12_goalOf (E : Ev) (a0 : Nat) (x1 : Int32) (h : Hp) : Rs :=
  (gfR h a0 12 0).bind fun v1 =>
  (gaI E 0 h v1 ((762 : Int32) + ((173 : Int32) * x1))).bind fun v13 =>
  rtI v13 h
def F_X12_sayings (E : Ev) (a0 : Nat) (x1 : Int32) (h : Hp) : Rs :=
  (pf h a0 12 3 (.int (0 : Int32))).bind fun h2 =>
  (isO h2 a0 12).bind fun _ => cI (F_X12_isTelling E a0 x1 h2) fun v7 h7 =>
  if v7 = 0 then
    (isO h7 a0 12).bind fun _ => cI (F_X12_fails E a0 (1 : Int32) h7) fun v23 h23 =>
    rtI v23 h23
  else
    (isO h7 a0 12).bind fun _ => cI (F_X12_sayingsOf E a0 x1 h7) fun v15 h15 =>
    rtI v15 h15
def L_X12_goOn_9 (E : Ev)  (y0 : Nat) (y1 : Nat) (y2 : Int32) (y3 : Nat) (y4 : Int32) : Nat → Int32 → Hp → Rs
  | 0, _, _ => none
  | g + 1, y5, h =>
    if (240 : Int32) ≤ y5 then
      rtV h
    else
      cI (F_X12_has E y1 y2 y5 h) fun v21 h21 =>
      if v21 = 0 then
        L_X12_goOn_9 E y0 y1 y2 y3 y4 g (y5 + (1 : Int32)) h21
      else
        (gfR h21 y0 12 5).bind fun v31 =>
        cV (F_X12_join E y3 y4 v31 ((0 : Int32) + ((4 : Int32) * y5)) h21) fun h40 =>
        L_X12_goOn_9 E y0 y1 y2 y3 y4 g (y5 + (1 : Int32)) h40
def F_X12_goOn (E : Ev) (a0 : Nat) (a1 : Nat) (x2 : Int32) (a3 : Nat) (x4 : Int32) (h : Hp) : Rs :=
  cV (F_X12_empty E a3 x4 h) fun h3 =>
  L_X12_goOn_9 E a0 a1 x2 a3 x4 E.2.2.1 (0 : Int32) h3
def L_X12_goOnFar_18 (E : Ev)  (y0 : Nat) (y1 : Int32) (y2 : Int32) : Nat → Int32 → Hp → Rs
  | 0, _, _ => none
  | g + 1, y3, h =>
    if (240 : Int32) ≤ y3 then
      rtV h
    else
      (gfR h y0 12 22).bind fun v26 =>
      cI (F_X12_has E v26 (0 : Int32) y3 h) fun v31 h31 =>
      if v31 = 0 then
        L_X12_goOnFar_18 E y0 y1 y2 g (y3 + (2 : Int32)) h31
      else
        (dvI y3 (4 : Int32)).bind fun v41 =>
        (isO h31 y0 12).bind fun _ => cI (F_X12_wayOf E y0 v41 (3 : Int32) h31) fun v43 h43 =>
        if y2 < (y1 + v43) then
          L_X12_goOnFar_18 E y0 y1 y2 g (y3 + (2 : Int32)) h43
        else
          (gfR h43 y0 12 25).bind fun v52 =>
          (dvI y3 (4 : Int32)).bind fun v60 =>
          (isO h43 y0 12).bind fun _ => cI (F_X12_wayOf E y0 v60 (3 : Int32) h43) fun v62 h62 =>
          cV (F_X12_put E v52 ((4 : Int32) * (y1 + v62)) y3 h62) fun h68 =>
          L_X12_goOnFar_18 E y0 y1 y2 g (y3 + (2 : Int32)) h68
def F_X12_goOnFar (E : Ev) (a0 : Nat) (x1 : Int32) (x2 : Int32) (h : Hp) : Rs :=
  (gfR h a0 12 24).bind fun v2 =>
  (gfR h a0 12 22).bind fun v9 =>
  (isO h a0 12).bind fun _ => cV (F_X12_goOn E a0 v2 ((4 : Int32) * x1) v9 (0 : Int32) h) fun h13 =>
  L_X12_goOnFar_18 E a0 x1 x2 E.2.2.1 (0 : Int32) h13
def L_X12_far_3 (E : Ev) (K27 : Hp → Rs) (y0 : Nat) : Nat → Int32 → Hp → Rs
  | 0, _, _ => none
  | g + 1, y7, h =>
    (gfR h y0 12 24).bind fun v6 =>
    (aln E 1 h v6).bind fun v9 =>
    if v9 ≤ y7 then
      K27 h
    else
      (gfR h y0 12 24).bind fun v14 =>
      (paL E h v14 y7 (0 : Int64)).bind fun h20 =>
      L_X12_far_3 E K27 y0 g (y7 + (1 : Int32)) h20
def L_X12_far_54 (E : Ev) (K78 : Hp → Rs) (y0 : Nat) : Nat → Int32 → Hp → Rs
  | 0, _, _ => none
  | g + 1, y8, h =>
    (gfR h y0 12 25).bind fun v57 =>
    (aln E 1 h v57).bind fun v60 =>
    if v60 ≤ y8 then
      K78 h
    else
      (gfR h y0 12 25).bind fun v65 =>
      (paL E h v65 y8 (0 : Int64)).bind fun h71 =>
      L_X12_far_54 E K78 y0 g (y8 + (1 : Int32)) h71
def L_X12_far_81 (E : Ev) (K121 : Hp → Rs) (y0 : Nat) (y1 : Int32) : Nat → Int32 → Hp → Rs
  | 0, _, _ => none
  | g + 1, y8, h =>
    if ((2 : Int32) * y1) ≤ y8 then
      K121 h
    else
      (gfR h y0 12 24).bind fun v90 =>
      cI (F_X12_isNone E v90 ((4 : Int32) * y8) h) fun v97 h97 =>
      if v97 = 0 then
        (isO h97 y0 12).bind fun _ => cV (F_X12_goOnFar E y0 y8 ((2 : Int32) * y1) h97) fun h112 =>
        L_X12_far_81 E K121 y0 y1 g (y8 + (1 : Int32)) h112
      else
        L_X12_far_81 E K121 y0 y1 g (y8 + (1 : Int32)) h97
def L_X12_far_128 (E : Ev) (K157 : Hp → Rs) (y0 : Nat) (y1 : Int32) (y5 : Nat) (y6 : Int32) : Nat → Int32 → Hp → Rs
  | 0, _, _ => none
  | g + 1, y8, h =>
    if ((2 : Int32) * y1) < y8 then
      K157 h
    else
      (gfR h y0 12 25).bind fun v141 =>
      cV (F_X12_join E y5 y6 v141 ((4 : Int32) * y8) h) fun h148 =>
      L_X12_far_128 E K157 y0 y1 y5 y6 g (y8 + (1 : Int32)) h148
def L_X12_far_160 (E : Ev) (K190 : Hp → Rs) (y0 : Nat) : Nat → Int32 → Hp → Rs
  | 0, _, _ => none
  | g + 1, y8, h =>
    (gfR h y0 12 25).bind fun v163 =>
    (aln E 1 h v163).bind fun v166 =>
    if v166 ≤ y8 then
      K190 h
    else
      (gfR h y0 12 24).bind fun v171 =>
      (gfR h y0 12 25).bind fun v177 =>
      (gaL E h v177 y8).bind fun v182 =>
      (paL E h v171 y8 v182).bind fun h183 =>
      L_X12_far_160 E K190 y0 g (y8 + (1 : Int32)) h183
def L_X12_far_41 (E : Ev)  (y0 : Nat) (y1 : Int32) (y2 : Int32) (y5 : Nat) (y6 : Int32) : Nat → Int32 → Hp → Rs
  | 0, _, _ => none
  | g + 1, y7, h =>
    (isO h y0 12).bind fun _ => cI (F_X12_patience E y0 y2 h) fun v45 h45 =>
    if v45 ≤ y7 then
      rtV h45
    else
      L_X12_far_54 E
        (fun h2 =>
          L_X12_far_81 E
            (fun h4 =>
              (dvI (y1 + (1 : Int32)) (2 : Int32)).bind fun v125 =>
              L_X12_far_128 E
                (fun h6 =>
                  L_X12_far_160 E
                    (fun h8 =>
                      L_X12_far_41 E y0 y1 y2 y5 y6 g (y7 + (1 : Int32)) h8)
                    y0 E.2.2.1 (0 : Int32) h6)
                y0 y1 y5 y6 E.2.2.1 v125 h4)
            y0 y1 E.2.2.1 (0 : Int32) h2)
        y0 E.2.2.1 (0 : Int32) h45
def F_X12_far (E : Ev) (a0 : Nat) (x1 : Int32) (x2 : Int32) (a3 : Nat) (x4 : Int32) (a5 : Nat) (x6 : Int32) (h : Hp) : Rs :=
  L_X12_far_3 E
    (fun h2 =>
      (gfR h2 a0 12 24).bind fun v28 =>
      cV (F_X12_copy E v28 (0 : Int32) a3 x4 h2) fun h35 =>
      L_X12_far_41 E a0 x1 x2 a5 x6 E.2.2.1 (0 : Int32) h35)
    a0 E.2.2.1 (0 : Int32) h
def L_X12_isOver_64 (E : Ev) (K101 : Hp → Rs) (y0 : Nat) (y4 : Int32) : Nat → Int32 → Hp → Rs
  | 0, _, _ => none
  | g + 1, y6, h =>
    if (4 : Int32) ≤ y6 then
      K101 h
    else
      (gfR h y0 12 21).bind fun v71 =>
      (gaL E h v71 y6).bind fun v76 =>
      (gfR h y0 12 6).bind fun v78 =>
      (gaL E h v78 (y4 + y6)).bind fun v86 =>
      if (v76 &&& v86) = (0 : Int64) then
        L_X12_isOver_64 E K101 y0 y4 g (y6 + (1 : Int32)) h
      else
        rtZ (1 : Int32) h
def L_X12_isOver_28 (E : Ev)  (y0 : Nat) (y4 : Int32) : Nat → Int32 → Hp → Rs
  | 0, _, _ => none
  | g + 1, y5, h =>
    if (3 : Int32) ≤ y5 then
      rtZ (0 : Int32) h
    else
      (gfR h y0 12 21).bind fun v36 =>
      (gfR h y0 12 22).bind fun v41 =>
      (isO h y0 12).bind fun _ => cV (F_X12_goOn E y0 v36 (0 : Int32) v41 (0 : Int32) h) fun h45 =>
      (gfR h45 y0 12 21).bind fun v49 =>
      (gfR h45 y0 12 22).bind fun v54 =>
      cV (F_X12_copy E v49 (0 : Int32) v54 (0 : Int32) h45) fun h58 =>
      L_X12_isOver_64 E
        (fun h2 =>
          L_X12_isOver_28 E y0 y4 g (y5 + (1 : Int32)) h2)
        y0 y4 E.2.2.1 (0 : Int32) h58
def F_X12_isOver (E : Ev) (a0 : Nat) (x1 : Int32) (x2 : Int32) (x3 : Int32) (h : Hp) : Rs :=
  (isO h a0 12).bind fun _ => cI (F_X12_standing E a0 x2 x1 h) fun v3 h3 =>
  (gfR h3 a0 12 21).bind fun v9 =>
  cV (F_X12_empty E v9 (0 : Int32) h3) fun h13 =>
  (gfR h13 a0 12 21).bind fun v17 =>
  cV (F_X12_put E v17 (0 : Int32) x3 h13) fun h22 =>
  L_X12_isOver_28 E a0 v3 E.2.2.1 (0 : Int32) h22
def L_X12_nth_21 (E : Ev) (K45 : Hp → Rs) (y0 : Nat) : Nat → Int32 → Hp → Rs
  | 0, _, _ => none
  | g + 1, y10, h =>
    (gfR h y0 12 24).bind fun v24 =>
    (aln E 1 h v24).bind fun v27 =>
    if v27 ≤ y10 then
      K45 h
    else
      (gfR h y0 12 24).bind fun v32 =>
      (paL E h v32 y10 (0 : Int64)).bind fun h38 =>
      L_X12_nth_21 E K45 y0 g (y10 + (1 : Int32)) h38
def L_X12_nth_74 (E : Ev) (K98 : Hp → Rs) (y0 : Nat) : Nat → Int32 → Hp → Rs
  | 0, _, _ => none
  | g + 1, y11, h =>
    (gfR h y0 12 25).bind fun v77 =>
    (aln E 1 h v77).bind fun v80 =>
    if v80 ≤ y11 then
      K98 h
    else
      (gfR h y0 12 25).bind fun v85 =>
      (paL E h v85 y11 (0 : Int64)).bind fun h91 =>
      L_X12_nth_74 E K98 y0 g (y11 + (1 : Int32)) h91
def J_X12_nth_219 (E : Ev) (K144 : Int32 → Hp → Rs) (y0 : Nat) (y1 : Int32) (y2 : Int32) (y4 : Int32) (y7 : Nat) (y8 : Int32) (y9 : Int32) (y11 : Int32) (y12 : Int32) (y13 : Int32) (t0 : Int32) (h : Hp) : Rs :=
  if ¬ t0 = 0 then
    if y1 ≤ (y11 + (1 : Int32)) then
      (gfR h y0 12 5).bind fun v273 =>
      cV (F_X12_join E y7 y8 v273 y13 h) fun h278 =>
      K144 (y12 + (2 : Int32)) h278
    else
      (gfR h y0 12 25).bind fun v251 =>
      cV (F_X12_put E v251 ((4 : Int32) * (y11 + (1 : Int32))) y12 h) fun h262 =>
      K144 (y12 + (2 : Int32)) h262
  else
    (gfR h y0 12 25).bind fun v227 =>
    cV (F_X12_put E v227 ((4 : Int32) * y11) y12 h) fun h236 =>
    K144 (y12 + (2 : Int32)) h236
def L_X12_nth_144 (E : Ev) (K287 : Hp → Rs) (y0 : Nat) (y1 : Int32) (y2 : Int32) (y4 : Int32) (y7 : Nat) (y8 : Int32) (y9 : Int32) (y11 : Int32) : Nat → Int32 → Hp → Rs
  | 0, _, _ => none
  | g + 1, y12, h =>
    if (240 : Int32) ≤ y12 then
      K287 h
    else
      (gfR h y0 12 22).bind fun v153 =>
      cI (F_X12_has E v153 (0 : Int32) y12 h) fun v159 h159 =>
      if ¬ v159 = 0 then
        (isO h159 y0 12).bind fun _ => cI (F_X12_countsPaths E y0 y4 h159) fun v172 h172 =>
        cI (F_X12_sideAt E y2 v172 y12 h172) fun v177 h177 =>
        (gfR h177 y0 12 5).bind fun v183 =>
        cI (F_X12_isNone E v183 v177 h177) fun v188 h188 =>
        if ¬ v188 = 0 then
          J_X12_nth_219 E
            (fun w1 h4 =>
              L_X12_nth_144 E K287 y0 y1 y2 y4 y7 y8 y9 y11 g w1 h4)
            y0 y1 y2 y4 y7 y8 y9 y11 y12 v177 (0 : Int32) h188
        else
          if y9 = (-1 : Int32) then
            J_X12_nth_219 E
              (fun w5 h8 =>
                L_X12_nth_144 E K287 y0 y1 y2 y4 y7 y8 y9 y11 g w5 h8)
              y0 y1 y2 y4 y7 y8 y9 y11 y12 v177 (1 : Int32) h188
          else
            (gfR h188 y0 12 6).bind fun v201 =>
            cI (F_X12_has E v201 y9 y12 h188) fun v208 h208 =>
            if ¬ v208 = 0 then
              J_X12_nth_219 E
                (fun w9 h12 =>
                  L_X12_nth_144 E K287 y0 y1 y2 y4 y7 y8 y9 y11 g w9 h12)
                y0 y1 y2 y4 y7 y8 y9 y11 y12 v177 (0 : Int32) h208
            else
              J_X12_nth_219 E
                (fun w13 h16 =>
                  L_X12_nth_144 E K287 y0 y1 y2 y4 y7 y8 y9 y11 g w13 h16)
                y0 y1 y2 y4 y7 y8 y9 y11 y12 v177 (1 : Int32) h208
      else
        L_X12_nth_144 E K287 y0 y1 y2 y4 y7 y8 y9 y11 g (y12 + (2 : Int32)) h159
def L_X12_nth_101 (E : Ev) (K293 : Hp → Rs) (y0 : Nat) (y1 : Int32) (y2 : Int32) (y4 : Int32) (y7 : Nat) (y8 : Int32) (y9 : Int32) : Nat → Int32 → Hp → Rs
  | 0, _, _ => none
  | g + 1, y11, h =>
    if y1 ≤ y11 then
      K293 h
    else
      (gfR h y0 12 24).bind fun v108 =>
      cI (F_X12_isNone E v108 ((4 : Int32) * y11) h) fun v115 h115 =>
      if v115 = 0 then
        (gfR h115 y0 12 24).bind fun v126 =>
        (gfR h115 y0 12 22).bind fun v134 =>
        (isO h115 y0 12).bind fun _ => cV (F_X12_goOn E y0 v126 ((4 : Int32) * y11) v134 (0 : Int32) h115) fun h138 =>
        L_X12_nth_144 E
          (fun h4 =>
            L_X12_nth_101 E K293 y0 y1 y2 y4 y7 y8 y9 g (y11 + (1 : Int32)) h4)
          y0 y1 y2 y4 y7 y8 y9 y11 E.2.2.1 (0 : Int32) h138
      else
        L_X12_nth_101 E K293 y0 y1 y2 y4 y7 y8 y9 g (y11 + (1 : Int32)) h115
def L_X12_nth_296 (E : Ev) (K326 : Hp → Rs) (y0 : Nat) : Nat → Int32 → Hp → Rs
  | 0, _, _ => none
  | g + 1, y11, h =>
    (gfR h y0 12 25).bind fun v299 =>
    (aln E 1 h v299).bind fun v302 =>
    if v302 ≤ y11 then
      K326 h
    else
      (gfR h y0 12 24).bind fun v307 =>
      (gfR h y0 12 25).bind fun v313 =>
      (gaL E h v313 y11).bind fun v318 =>
      (paL E h v307 y11 v318).bind fun h319 =>
      L_X12_nth_296 E K326 y0 g (y11 + (1 : Int32)) h319
def L_X12_nth_60 (E : Ev)  (y0 : Nat) (y1 : Int32) (y2 : Int32) (y4 : Int32) (y7 : Nat) (y8 : Int32) (y9 : Int32) : Nat → Int32 → Hp → Rs
  | 0, _, _ => none
  | g + 1, y10, h =>
    (isO h y0 12).bind fun _ => cI (F_X12_patience E y0 y4 h) fun v65 h65 =>
    if v65 ≤ y10 then
      rtV h65
    else
      L_X12_nth_74 E
        (fun h2 =>
          L_X12_nth_101 E
            (fun h7 =>
              L_X12_nth_296 E
                (fun h9 =>
                  L_X12_nth_60 E y0 y1 y2 y4 y7 y8 y9 g (y10 + (1 : Int32)) h9)
                y0 E.2.2.1 (0 : Int32) h7)
            y0 y1 y2 y4 y7 y8 y9 E.2.2.1 (0 : Int32) h2)
        y0 E.2.2.1 (0 : Int32) h65
def F_X12_nth (E : Ev) (a0 : Nat) (x1 : Int32) (x2 : Int32) (x3 : Int32) (x4 : Int32) (a5 : Nat) (x6 : Int32) (a7 : Nat) (x8 : Int32) (h : Hp) : Rs :=
  if ¬ x3 = (-1 : Int32) then
    (isO h a0 12).bind fun _ => cI (F_X12_standing E a0 x4 x3 h) fun v13 h13 =>
    L_X12_nth_21 E
      (fun h2 =>
        (gfR h2 a0 12 24).bind fun v46 =>
        cV (F_X12_copy E v46 (0 : Int32) a5 x6 h2) fun h54 =>
        L_X12_nth_60 E a0 x1 x2 x4 a7 x8 v13 E.2.2.1 (0 : Int32) h54)
      a0 E.2.2.1 (0 : Int32) h13
  else
    L_X12_nth_21 E
      (fun h4 =>
        (gfR h4 a0 12 24).bind fun v46 =>
        cV (F_X12_copy E v46 (0 : Int32) a5 x6 h4) fun h54 =>
        L_X12_nth_60 E a0 x1 x2 x4 a7 x8 (-1 : Int32) E.2.2.1 (0 : Int32) h54)
      a0 E.2.2.1 (0 : Int32) h
def L_X12_onTimes_24 (E : Ev)  (y0 : Nat) (y1 : Int32) (y5 : Nat) (y6 : Int32) : Nat → Int32 → Hp → Rs
  | 0, _, _ => none
  | g + 1, y7, h =>
    if y1 ≤ y7 then
      (gfR h y0 12 21).bind fun v68 =>
      cV (F_X12_join E y5 y6 v68 (0 : Int32) h) fun h72 =>
      rtV h72
    else
      (gfR h y0 12 21).bind fun v32 =>
      (gfR h y0 12 22).bind fun v37 =>
      (isO h y0 12).bind fun _ => cV (F_X12_goOn E y0 v32 (0 : Int32) v37 (0 : Int32) h) fun h41 =>
      (gfR h41 y0 12 21).bind fun v45 =>
      (gfR h41 y0 12 22).bind fun v50 =>
      cV (F_X12_copy E v45 (0 : Int32) v50 (0 : Int32) h41) fun h54 =>
      L_X12_onTimes_24 E y0 y1 y5 y6 g (y7 + (1 : Int32)) h54
def F_X12_onTimes (E : Ev) (a0 : Nat) (x1 : Int32) (x2 : Int32) (a3 : Nat) (x4 : Int32) (a5 : Nat) (x6 : Int32) (h : Hp) : Rs :=
  (isO h a0 12).bind fun _ => cI (F_X12_patience E a0 x2 h) fun v3 h3 =>
  if x1 ≤ v3 then
    (gfR h3 a0 12 21).bind fun v11 =>
    cV (F_X12_copy E v11 (0 : Int32) a3 x4 h3) fun h18 =>
    L_X12_onTimes_24 E a0 x1 a5 x6 E.2.2.1 (0 : Int32) h18
  else
    rtV h3
def F_X12_sideOf (E : Ev) (a0 : Nat) (x1 : Int32) (x2 : Int32) (h : Hp) : Rs :=
  (gfR h a0 12 0).bind fun v1 =>
  (gaI E 0 h v1 (((722 : Int32) + ((5 : Int32) * x2)) + (2 : Int32))).bind fun v13 =>
  if ¬ v13 = (1 : Int32) then
    rtI x1 h
  else
    rtI ((1 : Int32) - x1) h
def L_X12_until_69 (E : Ev) (K138 : Hp → Rs) (y0 : Nat) (y8 : Int32) : Nat → Int32 → Hp → Rs
  | 0, _, _ => none
  | g + 1, y10, h =>
    if (4 : Int32) ≤ y10 then
      K138 h
    else
      (gfR h y0 12 23).bind fun v76 =>
      (gaL E h v76 y10).bind fun v82 =>
      (gfR h y0 12 22).bind fun v84 =>
      (gaL E h v84 y10).bind fun v89 =>
      (gfR h y0 12 6).bind fun v91 =>
      (gaL E h v91 (y8 + y10)).bind fun v99 =>
      (paL E h v76 y10 (v82 ||| (v89 &&& v99))).bind fun h102 =>
      (gfR h102 y0 12 21).bind fun v104 =>
      (gfR h102 y0 12 22).bind fun v110 =>
      (gaL E h102 v110 y10).bind fun v115 =>
      (gfR h102 y0 12 6).bind fun v117 =>
      (gaL E h102 v117 (y8 + y10)).bind fun v125 =>
      (paL E h102 v104 y10 (v115 &&& (v125 ^^^ (-1 : Int64)))).bind fun h131 =>
      L_X12_until_69 E K138 y0 y8 g (y10 + (1 : Int32)) h131
def L_X12_until_31 (E : Ev) (K144 : Hp → Rs) (y0 : Nat) (y2 : Int32) (y8 : Int32) : Nat → Int32 → Hp → Rs
  | 0, _, _ => none
  | g + 1, y9, h =>
    (isO h y0 12).bind fun _ => cI (F_X12_patience E y0 y2 h) fun v35 h35 =>
    if v35 ≤ y9 then
      K144 h35
    else
      (gfR h35 y0 12 21).bind fun v42 =>
      cI (F_X12_isNone E v42 (0 : Int32) h35) fun v46 h46 =>
      if ¬ v46 = 0 then
        K144 h46
      else
        (gfR h46 y0 12 21).bind fun v54 =>
        (gfR h46 y0 12 22).bind fun v59 =>
        (isO h46 y0 12).bind fun _ => cV (F_X12_goOn E y0 v54 (0 : Int32) v59 (0 : Int32) h46) fun h63 =>
        L_X12_until_69 E
          (fun h2 =>
            L_X12_until_31 E K144 y0 y2 y8 g (y9 + (1 : Int32)) h2)
          y0 y8 E.2.2.1 (0 : Int32) h63
def J_X12_until_144 (E : Ev)  (y0 : Nat) (y3 : Int32) (y6 : Nat) (y7 : Int32) (h : Hp) : Rs :=
  if y3 = 0 then
    (gfR h y0 12 23).bind fun v182 =>
    cV (F_X12_join E y6 y7 v182 (0 : Int32) h) fun h186 =>
    rtV h186
  else
    (gfR h y0 12 23).bind fun v150 =>
    (gfR h y0 12 22).bind fun v155 =>
    (isO h y0 12).bind fun _ => cV (F_X12_goOn E y0 v150 (0 : Int32) v155 (0 : Int32) h) fun h159 =>
    (gfR h159 y0 12 22).bind fun v167 =>
    cV (F_X12_join E y6 y7 v167 (0 : Int32) h159) fun h171 =>
    rtV h171
def F_X12_until (E : Ev) (a0 : Nat) (x1 : Int32) (x2 : Int32) (x3 : Int32) (a4 : Nat) (x5 : Int32) (a6 : Nat) (x7 : Int32) (h : Hp) : Rs :=
  (isO h a0 12).bind fun _ => cI (F_X12_standing E a0 x2 x1 h) fun v3 h3 =>
  (gfR h3 a0 12 23).bind fun v9 =>
  cV (F_X12_empty E v9 (0 : Int32) h3) fun h13 =>
  (gfR h13 a0 12 21).bind fun v17 =>
  cV (F_X12_copy E v17 (0 : Int32) a4 x5 h13) fun h25 =>
  L_X12_until_31 E
    (fun h3 =>
      J_X12_until_144 E a0 x3 a6 x7 h3)
    a0 x2 v3 E.2.2.1 (0 : Int32) h25
def L_X12_word_129 (E : Ev)  (y0 : Nat) (y1 : Int32) (y3 : Int32) (y4 : Int32) (y5 : Nat) (y6 : Int32) (y7 : Nat) (y8 : Int32) : Nat → Int32 → Hp → Rs
  | 0, _, _ => none
  | g + 1, y9, h =>
    if (240 : Int32) ≤ y9 then
      rtV h
    else
      cI (F_X12_has E y5 y6 y9 h) fun v143 h143 =>
      if v143 = 0 then
        L_X12_word_129 E y0 y1 y3 y4 y5 y6 y7 y8 g (y9 + (1 : Int32)) h143
      else
        if ¬ y1 = (4 : Int32) then
          (isO h143 y0 12).bind fun _ => cI (F_X12_isOver E y0 y3 y4 y9 h143) fun v183 h183 =>
          if v183 = 0 then
            L_X12_word_129 E y0 y1 y3 y4 y5 y6 y7 y8 g (y9 + (1 : Int32)) h183
          else
            cV (F_X12_put E y7 y8 y9 h183) fun h195 =>
            L_X12_word_129 E y0 y1 y3 y4 y5 y6 y7 y8 g (y9 + (1 : Int32)) h195
        else
          (isO h143 y0 12).bind fun _ => cI (F_X12_placeOf E y0 y9 h143) fun v161 h161 =>
          (gfI h161 y0 12 4).bind fun v165 =>
          (isO h161 y0 12).bind fun _ => cI (F_X12_isSeenAt E y0 y4 y3 v161 v165 h161) fun v168 h168 =>
          if v168 = 0 then
            L_X12_word_129 E y0 y1 y3 y4 y5 y6 y7 y8 g (y9 + (1 : Int32)) h168
          else
            cV (F_X12_put E y7 y8 y9 h168) fun h195 =>
            L_X12_word_129 E y0 y1 y3 y4 y5 y6 y7 y8 g (y9 + (1 : Int32)) h195
def L_X12_word_224 (E : Ev)  (y0 : Nat) (y5 : Nat) (y6 : Int32) (y7 : Nat) (y8 : Int32) : Nat → Int32 → Hp → Rs
  | 0, _, _ => none
  | g + 1, y9, h =>
    if (240 : Int32) ≤ y9 then
      rtV h
    else
      cI (F_X12_has E y5 y6 y9 h) fun v238 h238 =>
      if v238 = 0 then
        L_X12_word_224 E y0 y5 y6 y7 y8 g (y9 + (2 : Int32)) h238
      else
        (dvI y9 (4 : Int32)).bind fun v248 =>
        (gfI h238 y0 12 4).bind fun v250 =>
        (isO h238 y0 12).bind fun _ => cI (F_X12_isThere E y0 v248 v250 h238) fun v253 h253 =>
        if v253 = 0 then
          L_X12_word_224 E y0 y5 y6 y7 y8 g (y9 + (2 : Int32)) h253
        else
          (dvI y9 (2 : Int32)).bind fun v267 =>
          cV (F_X12_put E y7 y8 ((2 : Int32) * (v267 ^^^ (1 : Int32))) h253) fun h271 =>
          L_X12_word_224 E y0 y5 y6 y7 y8 g (y9 + (2 : Int32)) h271
def L_X12_word_286 (E : Ev)  (y0 : Nat) (y2 : Int32) (y4 : Int32) (y5 : Nat) (y6 : Int32) (y7 : Nat) (y8 : Int32) : Nat → Int32 → Hp → Rs
  | 0, _, _ => none
  | g + 1, y9, h =>
    if (240 : Int32) ≤ y9 then
      rtV h
    else
      cI (F_X12_has E y5 y6 y9 h) fun v300 h300 =>
      if v300 = 0 then
        L_X12_word_286 E y0 y2 y4 y5 y6 y7 y8 g (y9 + (1 : Int32)) h300
      else
        (gfR h300 y0 12 5).bind fun v311 =>
        (isO h300 y0 12).bind fun _ => cI (F_X12_sideOf E y0 y2 y4 h300) fun v318 h318 =>
        cI (F_X12_sideAt E v318 (1 : Int32) y9 h318) fun v324 h324 =>
        cV (F_X12_join E y7 y8 v311 v324 h324) fun h327 =>
        L_X12_word_286 E y0 y2 y4 y5 y6 y7 y8 g (y9 + (1 : Int32)) h327
def F_X12_word (E : Ev) (a0 : Nat) (x1 : Int32) (x2 : Int32) (x3 : Int32) (x4 : Int32) (a5 : Nat) (x6 : Int32) (a7 : Nat) (x8 : Int32) (h : Hp) : Rs :=
  if x1 = (0 : Int32) then
    (isO h a0 12).bind fun _ => cV (F_X12_onTimes E a0 x2 x4 a5 x6 a7 x8 h) fun h64 =>
    rtV h64
  else
  if x1 = (1 : Int32) then
    (isO h a0 12).bind fun _ => cV (F_X12_until E a0 x3 x4 (0 : Int32) a5 x6 a7 x8 h) fun h83 =>
    rtV h83
  else
  if x1 = (2 : Int32) then
    (isO h a0 12).bind fun _ => cV (F_X12_until E a0 x3 x4 (1 : Int32) a5 x6 a7 x8 h) fun h102 =>
    rtV h102
  else
  if x1 = (3 : Int32) then
    (isO h a0 12).bind fun _ => cV (F_X12_far E a0 x2 x4 a5 x6 a7 x8 h) fun h120 =>
    rtV h120
  else
  if x1 = (4 : Int32) then
    L_X12_word_129 E a0 x1 x3 x4 a5 x6 a7 x8 E.2.2.1 (0 : Int32) h
  else
  if x1 = (5 : Int32) then
    L_X12_word_129 E a0 x1 x3 x4 a5 x6 a7 x8 E.2.2.1 (0 : Int32) h
  else
  if x1 = (6 : Int32) then
    cV (F_X12_join E a7 x8 a5 x6 h) fun h215 =>
    rtV h215
  else
  if x1 = (7 : Int32) then
    L_X12_word_224 E a0 a5 x6 a7 x8 E.2.2.1 (0 : Int32) h
  else
  if x1 = (8 : Int32) then
    L_X12_word_286 E a0 x2 x4 a5 x6 a7 x8 E.2.2.1 (0 : Int32) h
  else
  (dvI x2 (2 : Int32)).bind fun v342 =>
  (rmI x2 (2 : Int32)).bind fun v346 =>
  (isO h a0 12).bind fun _ => cI (F_X12_sideOf E a0 v346 x4 h) fun v349 h349 =>
  (isO h349 a0 12).bind fun _ => cV (F_X12_nth E a0 v342 v349 x3 x4 a5 x6 a7 x8 h349) fun h363 =>
  rtV h363
def L_X12_says_22 (E : Ev) (K95 : Hp → Rs) (y0 : Nat) (y2 : Int32) (y3 : Int32) (y4 : Int32) : Nat → Int32 → Hp → Rs
  | 0, _, _ => none
  | g + 1, y5, h =>
    (gfR h y0 12 0).bind fun v25 =>
    (gaI E 0 h v25 ((y4 + (3 : Int32)) + y2)).bind fun v34 =>
    if v34 ≤ y5 then
      K95 h
    else
      cI (F_X12_wordAt E y2 y5 h) fun v43 h43 =>
      (gfR h43 y0 12 0).bind fun v51 =>
      (gaI E 0 h43 v51 (y4 + v43)).bind fun v56 =>
      (gfR h43 y0 12 0).bind fun v58 =>
      (gaI E 0 h43 v58 ((y4 + v43) + (1 : Int32))).bind fun v65 =>
      (gfR h43 y0 12 0).bind fun v67 =>
      (gaI E 0 h43 v67 ((y4 + v43) + (2 : Int32))).bind fun v74 =>
      (gfR h43 y0 12 26).bind fun v77 =>
      (gfR h43 y0 12 27).bind fun v82 =>
      (isO h43 y0 12).bind fun _ => cV (F_X12_word E y0 v56 v65 v74 y3 v77 (0 : Int32) v82 (0 : Int32) h43) fun h86 =>
      L_X12_says_22 E K95 y0 y2 y3 y4 g (y5 + (1 : Int32)) h86
def F_X12_says (E : Ev) (a0 : Nat) (x1 : Int32) (x2 : Int32) (x3 : Int32) (h : Hp) : Rs :=
  (gfR h a0 12 27).bind fun v1 =>
  cV (F_X12_empty E v1 (0 : Int32) h) fun h5 =>
  lt ((762 : Int32) + ((173 : Int32) * x1)) fun u1 =>
  L_X12_says_22 E
    (fun h4 =>
      (gfR h4 a0 12 26).bind fun v96 =>
      (gfR h4 a0 12 27).bind fun v101 =>
      cV (F_X12_copy E v96 (0 : Int32) v101 (0 : Int32) h4) fun h105 =>
      rtV h105)
    a0 x2 x3 u1 E.2.2.1 (0 : Int32) h5
def L_X12_goes_26 (E : Ev)  (y0 : Nat) (y1 : Int32) (y2 : Int32) (y5 : Int32) : Nat → Int32 → Hp → Rs
  | 0, _, _ => none
  | g + 1, y6, h =>
    if y5 ≤ y6 then
      rtI y6 h
    else
      (isO h y0 12).bind fun _ => cV (F_X12_says E y0 y1 y6 y2 h) fun h38 =>
      (gfR h38 y0 12 26).bind fun v42 =>
      cI (F_X12_isNone E v42 (0 : Int32) h38) fun v46 h46 =>
      if v46 = 0 then
        L_X12_goes_26 E y0 y1 y2 y5 g (y6 + (1 : Int32)) h46
      else
        rtI y6 h46
def F_X12_goes (E : Ev) (a0 : Nat) (x1 : Int32) (x2 : Int32) (x3 : Int32) (x4 : Int32) (x5 : Int32) (h : Hp) : Rs :=
  (isO h a0 12).bind fun _ => cV (F_X12_lay E a0 x4 h) fun h3 =>
  (gfR h3 a0 12 26).bind fun v7 =>
  cV (F_X12_empty E v7 (0 : Int32) h3) fun h11 =>
  (gfR h11 a0 12 26).bind fun v15 =>
  cV (F_X12_put E v15 (0 : Int32) x3 h11) fun h20 =>
  L_X12_goes_26 E a0 x1 x2 x5 E.2.2.1 (0 : Int32) h20
def L_X12_placesOf_2 (E : Ev) (K18 : Hp → Rs) (y1 : Nat) : Nat → Int32 → Hp → Rs
  | 0, _, _ => none
  | g + 1, y2, h =>
    if (40 : Int32) ≤ y2 then
      K18 h
    else
      (paZ E h y1 y2 (0 : Int32)).bind fun h11 =>
      L_X12_placesOf_2 E K18 y1 g (y2 + (1 : Int32)) h11
def L_X12_placesOf_20 (E : Ev) (K58 : Hp → Rs) (y0 : Nat) (y1 : Nat) : Nat → Int32 → Hp → Rs
  | 0, _, _ => none
  | g + 1, y2, h =>
    (gfR h y0 12 0).bind fun v23 =>
    (gaI E 0 h v23 (1 : Int32)).bind fun v27 =>
    if ((4 : Int32) * v27) ≤ y2 then
      K58 h
    else
      (gfR h y0 12 26).bind fun v33 =>
      cI (F_X12_has E v33 (0 : Int32) y2 h) fun v38 h38 =>
      if v38 = 0 then
        L_X12_placesOf_20 E K58 y0 y1 g (y2 + (1 : Int32)) h38
      else
        (isO h38 y0 12).bind fun _ => cI (F_X12_placeOf E y0 y2 h38) fun v47 h47 =>
        (paZ E h47 y1 v47 (1 : Int32)).bind fun h51 =>
        L_X12_placesOf_20 E K58 y0 y1 g (y2 + (1 : Int32)) h51
def L_X12_placesOf_62 (E : Ev)  (y1 : Nat) : Nat → Int32 → Int32 → Hp → Rs
  | 0, _, _, _ => none
  | g + 1, y2, y3, h =>
    if (40 : Int32) ≤ y3 then
      rtI y2 h
    else
      (gaI E 2 h y1 y3).bind fun v71 =>
      if v71 = 0 then
        L_X12_placesOf_62 E y1 g (y2 + (0 : Int32)) (y3 + (1 : Int32)) h
      else
        L_X12_placesOf_62 E y1 g (y2 + (1 : Int32)) (y3 + (1 : Int32)) h
def F_X12_placesOf (E : Ev) (a0 : Nat) (a1 : Nat) (h : Hp) : Rs :=
  L_X12_placesOf_2 E
    (fun h2 =>
      L_X12_placesOf_20 E
        (fun h4 =>
          L_X12_placesOf_62 E a1 E.2.2.1 (0 : Int32) (0 : Int32) h4)
        a0 a1 E.2.2.1 (0 : Int32) h2)
    a1 E.2.2.1 (0 : Int32) h
def F_X12_isRight (E : Ev) (a0 : Nat) (x1 : Int32) (x2 : Int32) (x3 : Int32) (x4 : Int32) (h : Hp) : Rs :=
  (isO h a0 12).bind fun _ => cI (F_X12_sayingsOf E a0 x1 h) fun v8 h8 =>
  (isO h8 a0 12).bind fun _ => cI (F_X12_goes E a0 x1 x2 x3 x4 v8 h8) fun v11 h11 =>
  (gfR h11 a0 12 28).bind fun v18 =>
  (isO h11 a0 12).bind fun _ => cI (F_X12_placesOf E a0 v18 h11) fun v21 h21 =>
  if ¬ v21 = (1 : Int32) then
    rtZ (0 : Int32) h21
  else
    (gfR h21 a0 12 28).bind fun v29 =>
    (isO h21 a0 12).bind fun _ => cI (F_X12_goalOf E a0 x1 h21) fun v34 h34 =>
    (gaI E 2 h34 v29 v34).bind fun v37 =>
    if v37 = 0 then
      rtZ (0 : Int32) h34
    else
      rtZ (1 : Int32) h34
def F_X12_areThere (E : Ev) (a0 : Nat) (x1 : Int32) (x2 : Int32) (x3 : Int32) (h : Hp) : Rs :=
  (isO h a0 12).bind fun _ => cI (F_X12_isTelling E a0 x1 h) fun v2 h2 =>
  if v2 = 0 then
    rtZ (0 : Int32) h2
  else
    (isO h2 a0 12).bind fun _ => cI (F_X12_isWalker E a0 x2 h2) fun v10 h10 =>
    if v10 = 0 then
      rtZ (0 : Int32) h10
    else
      (isO h10 a0 12).bind fun _ => cI (F_X12_isState E a0 x3 h10) fun v18 h18 =>
      if v18 = 0 then
        rtZ (0 : Int32) h18
      else
        rtZ (1 : Int32) h18
def F_X12_leads (E : Ev) (a0 : Nat) (x1 : Int32) (x2 : Int32) (x3 : Int32) (x4 : Int32) (x5 : Int32) (x6 : Int32) (h : Hp) : Rs :=
  (pf h a0 12 3 (.int (0 : Int32))).bind fun h2 =>
  (isO h2 a0 12).bind fun _ => cI (F_X12_areThere E a0 x1 x2 x3 h2) fun v9 h9 =>
  if ¬ v9 = 0 then
    cI (F_X12_isYear E x4 h9) fun v23 h23 =>
    if v23 = 0 then
      (isO h23 a0 12).bind fun _ => cI (F_X12_fails E a0 (2 : Int32) h23) fun v47 h47 =>
      rtI v47 h47
    else
      (isO h23 a0 12).bind fun _ => cI (F_X12_sayingsOf E a0 x1 h23) fun v35 h35 =>
      cI (F_X12_within E ((x5).toInt64) (0 : Int64) ((v35).toInt64) h35) fun v39 h39 =>
      if ¬ v39 = 0 then
        (isO h39 a0 12).bind fun _ => cI (F_X12_goes E a0 x1 x2 x3 x4 x5 h39) fun v59 h59 =>
        (gfR h59 a0 12 26).bind fun v65 =>
        cI (F_X12_numberOf E v65 (0 : Int32) x6 h59) fun v71 h71 =>
        rtI v71 h71
      else
        (isO h39 a0 12).bind fun _ => cI (F_X12_fails E a0 (2 : Int32) h39) fun v47 h47 =>
        rtI v47 h47
  else
    (isO h9 a0 12).bind fun _ => cI (F_X12_fails E a0 (1 : Int32) h9) fun v17 h17 =>
    rtI v17 h17
def F_X12_holds (E : Ev) (a0 : Nat) (x1 : Int32) (x2 : Int32) (x3 : Int32) (x4 : Int32) (h : Hp) : Rs :=
  (pf h a0 12 3 (.int (0 : Int32))).bind fun h2 =>
  (isO h2 a0 12).bind fun _ => cI (F_X12_areThere E a0 x1 x2 x3 h2) fun v9 h9 =>
  if ¬ v9 = 0 then
    cI (F_X12_isYear E x4 h9) fun v23 h23 =>
    if v23 = 0 then
      (isO h23 a0 12).bind fun _ => cI (F_X12_fails E a0 (2 : Int32) h23) fun v48 h48 =>
      rtI v48 h48
    else
      (isO h23 a0 12).bind fun _ => cI (F_X12_sayingsOf E a0 x1 h23) fun v37 h37 =>
      (isO h37 a0 12).bind fun _ => cI (F_X12_goes E a0 x1 x2 x3 x4 v37 h37) fun v40 h40 =>
      rtI v40 h40
  else
    (isO h9 a0 12).bind fun _ => cI (F_X12_fails E a0 (1 : Int32) h9) fun v17 h17 =>
    rtI v17 h17
def L_X12_end_76 (E : Ev)  (y0 : Nat) (y5 : Int32) : Nat → Int32 → Int32 → Hp → Rs
  | 0, _, _, _ => none
  | g + 1, y8, y9, h =>
    if (40 : Int32) ≤ y9 then
      rtI (-1 : Int32) h
    else
      (gfR h y0 12 28).bind fun v84 =>
      (gaI E 2 h v84 y9).bind fun v89 =>
      if ¬ v89 = 0 then
        if ¬ y8 = y5 then
          L_X12_end_76 E y0 y5 g (y8 + (1 : Int32)) (y9 + (1 : Int32)) h
        else
          rtI y9 h
      else
        L_X12_end_76 E y0 y5 g y8 (y9 + (1 : Int32)) h
def F_X12_end (E : Ev) (a0 : Nat) (x1 : Int32) (x2 : Int32) (x3 : Int32) (x4 : Int32) (x5 : Int32) (h : Hp) : Rs :=
  (pf h a0 12 3 (.int (0 : Int32))).bind fun h2 =>
  (isO h2 a0 12).bind fun _ => cI (F_X12_areThere E a0 x1 x2 x3 h2) fun v9 h9 =>
  if ¬ v9 = 0 then
    cI (F_X12_isYear E x4 h9) fun v23 h23 =>
    if ¬ v23 = 0 then
      (isO h23 a0 12).bind fun _ => cI (F_X12_sayingsOf E a0 x1 h23) fun v43 h43 =>
      (isO h43 a0 12).bind fun _ => cI (F_X12_goes E a0 x1 x2 x3 x4 v43 h43) fun v46 h46 =>
      (gfR h46 a0 12 28).bind fun v53 =>
      (isO h46 a0 12).bind fun _ => cI (F_X12_placesOf E a0 v53 h46) fun v56 h56 =>
      if ¬ x5 = (-1 : Int32) then
        L_X12_end_76 E a0 x5 E.2.2.1 (0 : Int32) (0 : Int32) h56
      else
        rtI v56 h56
    else
      (isO h23 a0 12).bind fun _ => cI (F_X12_fails E a0 (2 : Int32) h23) fun v31 h31 =>
      rtI v31 h31
  else
    (isO h9 a0 12).bind fun _ => cI (F_X12_fails E a0 (1 : Int32) h9) fun v17 h17 =>
    rtI v17 h17
def F_X12_right (E : Ev) (a0 : Nat) (x1 : Int32) (x2 : Int32) (x3 : Int32) (x4 : Int32) (h : Hp) : Rs :=
  (pf h a0 12 3 (.int (0 : Int32))).bind fun h2 =>
  (isO h2 a0 12).bind fun _ => cI (F_X12_areThere E a0 x1 x2 x3 h2) fun v9 h9 =>
  if ¬ v9 = 0 then
    cI (F_X12_isYear E x4 h9) fun v23 h23 =>
    if v23 = 0 then
      (isO h23 a0 12).bind fun _ => cI (F_X12_fell E a0 (2 : Int32) h23) fun v43 h43 =>
      rtZ v43 h43
    else
      (isO h23 a0 12).bind fun _ => cI (F_X12_isRight E a0 x1 x2 x3 x4 h23) fun v35 h35 =>
      rtZ v35 h35
  else
    (isO h9 a0 12).bind fun _ => cI (F_X12_fell E a0 (1 : Int32) h9) fun v17 h17 =>
    rtZ v17 h17
def L_X12_parted_22 (E : Ev)  (y1 : Int32) (y2 : Nat) (y3 : Nat) (y4 : Int32) : Nat → Int32 → Int32 → Hp → Rs
  | 0, _, _, _ => none
  | g + 1, y5, y6, h =>
    if (240 : Int32) ≤ y6 then
      rtV h
    else
      cI (F_X12_has E y2 (0 : Int32) y6 h) fun v34 h34 =>
      if ¬ v34 = 0 then
        (gaI E 0 h34 y3 y6).bind fun v47 =>
        (dvI y1 y4).bind fun v51 =>
        if y5 ≤ 0 then
          (paI E h34 y3 y6 (v47 + (v51 + (0 : Int32)))).bind fun h64 =>
          L_X12_parted_22 E y1 y2 y3 y4 g (y5 + (-1 : Int32)) (y6 + (1 : Int32)) h64
        else
          (paI E h34 y3 y6 (v47 + (v51 + (1 : Int32)))).bind fun h64 =>
          L_X12_parted_22 E y1 y2 y3 y4 g (y5 + (-1 : Int32)) (y6 + (1 : Int32)) h64
      else
        L_X12_parted_22 E y1 y2 y3 y4 g y5 (y6 + (1 : Int32)) h34
def F_X12_parted (E : Ev) (a0 : Nat) (x1 : Int32) (a2 : Nat) (a3 : Nat) (h : Hp) : Rs :=
  cI (F_X12_sizeOf E a2 (0 : Int32) h) fun v2 h2 =>
  if ¬ v2 = 0 then
    (rmI x1 v2).bind fun v16 =>
    L_X12_parted_22 E x1 a2 a3 v2 E.2.2.1 v16 (0 : Int32) h2
  else
    rtV h2
def L_X12_oddsOn_16 (E : Ev) (K38 : Hp → Rs) (y0 : Nat) : Nat → Int32 → Hp → Rs
  | 0, _, _ => none
  | g + 1, y5, h =>
    if (240 : Int32) ≤ y5 then
      K38 h
    else
      (gfR h y0 12 31).bind fun v25 =>
      (paI E h v25 y5 (0 : Int32)).bind fun h31 =>
      L_X12_oddsOn_16 E K38 y0 g (y5 + (1 : Int32)) h31
def L_X12_oddsOn_41 (E : Ev) (K113 : Hp → Rs) (y0 : Nat) (y1 : Int32) (y2 : Int32) (y4 : Int32) : Nat → Int32 → Hp → Rs
  | 0, _, _ => none
  | g + 1, y5, h =>
    if (240 : Int32) ≤ y5 then
      K113 h
    else
      (gfR h y0 12 30).bind fun v50 =>
      (gaI E 0 h v50 y5).bind fun v55 =>
      if ¬ v55 = 0 then
        (gfR h y0 12 26).bind fun v63 =>
        cV (F_X12_empty E v63 (0 : Int32) h) fun h67 =>
        (gfR h67 y0 12 26).bind fun v71 =>
        cV (F_X12_put E v71 (0 : Int32) y5 h67) fun h77 =>
        (isO h77 y0 12).bind fun _ => cV (F_X12_says E y0 y1 y4 y2 h77) fun h85 =>
        (gfR h85 y0 12 30).bind fun v90 =>
        (gaI E 0 h85 v90 y5).bind fun v95 =>
        (gfR h85 y0 12 26).bind fun v97 =>
        (gfR h85 y0 12 31).bind fun v101 =>
        (isO h85 y0 12).bind fun _ => cV (F_X12_parted E y0 v95 v97 v101 h85) fun h104 =>
        L_X12_oddsOn_41 E K113 y0 y1 y2 y4 g (y5 + (1 : Int32)) h104
      else
        L_X12_oddsOn_41 E K113 y0 y1 y2 y4 g (y5 + (1 : Int32)) h
def L_X12_oddsOn_116 (E : Ev) (K144 : Hp → Rs) (y0 : Nat) : Nat → Int32 → Hp → Rs
  | 0, _, _ => none
  | g + 1, y5, h =>
    if (240 : Int32) ≤ y5 then
      K144 h
    else
      (gfR h y0 12 30).bind fun v125 =>
      (gfR h y0 12 31).bind fun v131 =>
      (gaI E 0 h v131 y5).bind fun v136 =>
      (paI E h v125 y5 v136).bind fun h137 =>
      L_X12_oddsOn_116 E K144 y0 g (y5 + (1 : Int32)) h137
def L_X12_oddsOn_3 (E : Ev)  (y0 : Nat) (y1 : Int32) (y2 : Int32) : Nat → Int32 → Hp → Rs
  | 0, _, _ => none
  | g + 1, y4, h =>
    (isO h y0 12).bind fun _ => cI (F_X12_sayingsOf E y0 y1 h) fun v7 h7 =>
    if v7 ≤ y4 then
      rtV h7
    else
      L_X12_oddsOn_16 E
        (fun h2 =>
          L_X12_oddsOn_41 E
            (fun h4 =>
              L_X12_oddsOn_116 E
                (fun h6 =>
                  L_X12_oddsOn_3 E y0 y1 y2 g (y4 + (1 : Int32)) h6)
                y0 E.2.2.1 (0 : Int32) h4)
            y0 y1 y2 y4 E.2.2.1 (0 : Int32) h2)
        y0 E.2.2.1 (0 : Int32) h7
def F_X12_oddsOn (E : Ev) (a0 : Nat) (x1 : Int32) (x2 : Int32) (x3 : Int32) (h : Hp) : Rs :=
  L_X12_oddsOn_3 E a0 x1 x2 E.2.2.1 x3 h
def L_X12_shareAt_4 (E : Ev)  (y0 : Nat) (y1 : Int32) : Nat → Int32 → Int32 → Hp → Rs
  | 0, _, _, _ => none
  | g + 1, y2, y3, h =>
    (gfR h y0 12 0).bind fun v7 =>
    (gaI E 0 h v7 (1 : Int32)).bind fun v11 =>
    if ((4 : Int32) * v11) ≤ y3 then
      rtI y2 h
    else
      (isO h y0 12).bind fun _ => cI (F_X12_placeOf E y0 y3 h) fun v19 h19 =>
      if ¬ v19 = y1 then
        L_X12_shareAt_4 E y0 y1 g (y2 + (0 : Int32)) (y3 + (1 : Int32)) h19
      else
        (gfR h19 y0 12 30).bind fun v27 =>
        (gaI E 0 h19 v27 y3).bind fun v31 =>
        L_X12_shareAt_4 E y0 y1 g (y2 + v31) (y3 + (1 : Int32)) h19
def F_X12_shareAt (E : Ev) (a0 : Nat) (x1 : Int32) (h : Hp) : Rs :=
  L_X12_shareAt_4 E a0 x1 E.2.2.1 (0 : Int32) (0 : Int32) h
def L_X12_oddsFrom_9 (E : Ev)  (y0 : Nat) (y1 : Int32) (y2 : Int32) (y3 : Int32) : Nat → Int32 → Hp → Rs
  | 0, _, _ => none
  | g + 1, y5, h =>
    if (240 : Int32) ≤ y5 then
      (isO h y0 12).bind fun _ => cV (F_X12_oddsOn E y0 y1 y2 (0 : Int32) h) fun h47 =>
      rtV h47
    else
      (gfR h y0 12 30).bind fun v18 =>
      if ¬ y5 = y3 then
        (paI E h v18 y5 (0 : Int32)).bind fun h36 =>
        L_X12_oddsFrom_9 E y0 y1 y2 y3 g (y5 + (1 : Int32)) h36
      else
        (paI E h v18 y5 (1000000 : Int32)).bind fun h36 =>
        L_X12_oddsFrom_9 E y0 y1 y2 y3 g (y5 + (1 : Int32)) h36
def F_X12_oddsFrom (E : Ev) (a0 : Nat) (x1 : Int32) (x2 : Int32) (x3 : Int32) (x4 : Int32) (h : Hp) : Rs :=
  (isO h a0 12).bind fun _ => cV (F_X12_lay E a0 x4 h) fun h3 =>
  L_X12_oddsFrom_9 E a0 x1 x2 x3 E.2.2.1 (0 : Int32) h3
def F_X12_odds (E : Ev) (a0 : Nat) (x1 : Int32) (x2 : Int32) (x3 : Int32) (x4 : Int32) (x5 : Int32) (h : Hp) : Rs :=
  (pf h a0 12 3 (.int (0 : Int32))).bind fun h2 =>
  (isO h2 a0 12).bind fun _ => cI (F_X12_areThere E a0 x1 x2 x3 h2) fun v9 h9 =>
  if v9 = 0 then
    (isO h9 a0 12).bind fun _ => cI (F_X12_fails E a0 (1 : Int32) h9) fun v26 h26 =>
    rtI v26 h26
  else
    (isO h9 a0 12).bind fun _ => cI (F_X12_isPlace E a0 x5 h9) fun v18 h18 =>
    if ¬ v18 = 0 then
      cI (F_X12_isYear E x4 h18) fun v32 h32 =>
      if ¬ v32 = 0 then
        (isO h32 a0 12).bind fun _ => cV (F_X12_oddsFrom E a0 x1 x2 x3 x4 h32) fun h50 =>
        (isO h50 a0 12).bind fun _ => cI (F_X12_shareAt E a0 x5 h50) fun v56 h56 =>
        rtI v56 h56
      else
        (isO h32 a0 12).bind fun _ => cI (F_X12_fails E a0 (2 : Int32) h32) fun v40 h40 =>
        rtI v40 h40
    else
      (isO h18 a0 12).bind fun _ => cI (F_X12_fails E a0 (1 : Int32) h18) fun v26 h26 =>
      rtI v26 h26
def L_X12_parts_64 (E : Ev) (K133 : Hp → Rs) (y0 : Nat) (y2 : Int32) (y4 : Int32) (y5 : Int32) : Nat → Int32 → Hp → Rs
  | 0, _, _ => none
  | g + 1, y7, h =>
    if (240 : Int32) ≤ y7 then
      K133 h
    else
      (gfR h y0 12 26).bind fun v73 =>
      cI (F_X12_has E v73 (0 : Int32) y7 h) fun v79 h79 =>
      if v79 = 0 then
        L_X12_parts_64 E K133 y0 y2 y4 y5 g (y7 + (1 : Int32)) h79
      else
        (isO h79 y0 12).bind fun _ => cI (F_X12_placeOf E y0 y7 h79) fun v92 h92 =>
        (isO h92 y0 12).bind fun _ => cI (F_X12_isSeenAt E y0 y2 y5 v92 y4 h92) fun v97 h97 =>
        if ¬ v97 = 0 then
          L_X12_parts_64 E K133 y0 y2 y4 y5 g (y7 + (1 : Int32)) h97
        else
          (gfR h97 y0 12 26).bind fun v104 =>
          (gaL E h97 v104 (y7 >>> ((6 : Int32) &&& 31))).bind fun v113 =>
          (paL E h97 v104 (y7 >>> ((6 : Int32) &&& 31)) (v113 &&& (((1 : Int64) <<< (((y7 &&& (63 : Int32))).toInt64 &&& 63)) ^^^ (-1 : Int64)))).bind fun h126 =>
          L_X12_parts_64 E K133 y0 y2 y4 y5 g (y7 + (1 : Int32)) h126
def L_X12_parts_38 (E : Ev)  (y0 : Nat) (y1 : Int32) (y2 : Int32) (y3 : Int32) (y4 : Int32) : Nat → Int32 → Hp → Rs
  | 0, _, _ => none
  | g + 1, y5, h =>
    if (12 : Int32) ≤ y5 then
      rtI (-1 : Int32) h
    else
      (isO h y0 12).bind fun _ => cI (F_X12_sayingsOf E y0 y1 h) fun v53 h53 =>
      (isO h53 y0 12).bind fun _ => cI (F_X12_goes E y0 y1 y2 y3 y4 v53 h53) fun v56 h56 =>
      L_X12_parts_64 E
        (fun h2 =>
          (gfR h2 y0 12 28).bind fun v135 =>
          (isO h2 y0 12).bind fun _ => cI (F_X12_placesOf E y0 v135 h2) fun v138 h138 =>
          if ¬ v138 = (1 : Int32) then
            L_X12_parts_38 E y0 y1 y2 y3 y4 g (y5 + (1 : Int32)) h138
          else
            (gfR h138 y0 12 28).bind fun v146 =>
            (isO h138 y0 12).bind fun _ => cI (F_X12_goalOf E y0 y1 h138) fun v151 h151 =>
            (gaI E 2 h151 v146 v151).bind fun v154 =>
            if v154 = 0 then
              L_X12_parts_38 E y0 y1 y2 y3 y4 g (y5 + (1 : Int32)) h151
            else
              rtI y5 h151)
        y0 y2 y4 y5 E.2.2.1 (0 : Int32) h56
def F_X12_parts (E : Ev) (a0 : Nat) (x1 : Int32) (x2 : Int32) (x3 : Int32) (x4 : Int32) (h : Hp) : Rs :=
  (pf h a0 12 3 (.int (0 : Int32))).bind fun h2 =>
  (isO h2 a0 12).bind fun _ => cI (F_X12_areThere E a0 x1 x2 x3 h2) fun v9 h9 =>
  if ¬ v9 = 0 then
    cI (F_X12_isYear E x4 h9) fun v23 h23 =>
    if ¬ v23 = 0 then
      L_X12_parts_38 E a0 x1 x2 x3 x4 E.2.2.1 (0 : Int32) h23
    else
      (isO h23 a0 12).bind fun _ => cI (F_X12_fails E a0 (2 : Int32) h23) fun v31 h31 =>
      rtI v31 h31
  else
    (isO h9 a0 12).bind fun _ => cI (F_X12_fails E a0 (1 : Int32) h9) fun v17 h17 =>
    rtI v17 h17
def L_X12_hangs_55 (E : Ev)  (y0 : Nat) (y1 : Int32) (y2 : Int32) (y3 : Int32) (y4 : Int32) (y5 : Int32) : Nat → Int32 → Int32 → Hp → Rs
  | 0, _, _, _ => none
  | g + 1, y6, y7, h =>
    (gfR h y0 12 0).bind fun v59 =>
    (gaI E 0 h v59 (1 : Int32)).bind fun v63 =>
    if ((4 : Int32) * v63) ≤ y7 then
      rtI y6 h
    else
      (isO h y0 12).bind fun _ => cI (F_X12_placeOf E y0 y7 h) fun v73 h73 =>
      if ¬ v73 = y3 then
        L_X12_hangs_55 E y0 y1 y2 y3 y4 y5 g (y6 + (0 : Int32)) (y7 + (2 : Int32)) h73
      else
        (dvI y7 (4 : Int32)).bind fun v84 =>
        (isO h73 y0 12).bind fun _ => cI (F_X12_isThere E y0 v84 y4 h73) fun v87 h87 =>
        if v87 = 0 then
          L_X12_hangs_55 E y0 y1 y2 y3 y4 y5 g (y6 + (0 : Int32)) (y7 + (2 : Int32)) h87
        else
          (isO h87 y0 12).bind fun _ => cI (F_X12_isRight E y0 y1 y2 y7 y4 h87) fun v100 h100 =>
          if ¬ v100 = y5 then
            L_X12_hangs_55 E y0 y1 y2 y3 y4 y5 g (y6 + (0 : Int32)) (y7 + (2 : Int32)) h100
          else
            L_X12_hangs_55 E y0 y1 y2 y3 y4 y5 g (y6 + (1 : Int32)) (y7 + (2 : Int32)) h100
def F_X12_hangs (E : Ev) (a0 : Nat) (x1 : Int32) (x2 : Int32) (x3 : Int32) (x4 : Int32) (x5 : Int32) (h : Hp) : Rs :=
  (pf h a0 12 3 (.int (0 : Int32))).bind fun h2 =>
  (isO h2 a0 12).bind fun _ => cI (F_X12_isTelling E a0 x1 h2) fun v7 h7 =>
  if v7 = 0 then
    (isO h7 a0 12).bind fun _ => cI (F_X12_fails E a0 (1 : Int32) h7) fun v31 h31 =>
    rtI v31 h31
  else
    (isO h7 a0 12).bind fun _ => cI (F_X12_isWalker E a0 x2 h7) fun v15 h15 =>
    if v15 = 0 then
      (isO h15 a0 12).bind fun _ => cI (F_X12_fails E a0 (1 : Int32) h15) fun v31 h31 =>
      rtI v31 h31
    else
      (isO h15 a0 12).bind fun _ => cI (F_X12_isPlace E a0 x3 h15) fun v23 h23 =>
      if ¬ v23 = 0 then
        cI (F_X12_isYear E x4 h23) fun v37 h37 =>
        if ¬ v37 = 0 then
          L_X12_hangs_55 E a0 x1 x2 x3 x4 x5 E.2.2.1 (0 : Int32) (1 : Int32) h37
        else
          (isO h37 a0 12).bind fun _ => cI (F_X12_fails E a0 (2 : Int32) h37) fun v45 h45 =>
          rtI v45 h45
      else
        (isO h23 a0 12).bind fun _ => cI (F_X12_fails E a0 (1 : Int32) h23) fun v31 h31 =>
        rtI v31 h31
def L_X12_years_52 (E : Ev) (K103 : Int32 → Int32 → Int32 → Hp → Rs) (y0 : Nat) (y1 : Int32) (y2 : Int32) (y3 : Int32) : Nat → Int32 → Int32 → Int32 → Int32 → Hp → Rs
  | 0, _, _, _, _, _ => none
  | g + 1, y5, y6, y7, y8, h =>
    if (200 : Int32) < y8 then
      K103 y5 y6 y7 h
    else
      (isO h y0 12).bind fun _ => cI (F_X12_isRight E y0 y1 y2 y3 y8 h) fun v66 h66 =>
      if ¬ v66 = 0 then
        if ¬ y6 = (-1 : Int32) then
          L_X12_years_52 E K103 y0 y1 y2 y3 g (y5 + (1 : Int32)) y6 y8 (y8 + (1 : Int32)) h66
        else
          L_X12_years_52 E K103 y0 y1 y2 y3 g (y5 + (1 : Int32)) y8 y8 (y8 + (1 : Int32)) h66
      else
        L_X12_years_52 E K103 y0 y1 y2 y3 g y5 y6 y7 (y8 + (1 : Int32)) h66
def F_X12_years (E : Ev) (a0 : Nat) (x1 : Int32) (x2 : Int32) (x3 : Int32) (x4 : Int32) (h : Hp) : Rs :=
  (pf h a0 12 3 (.int (0 : Int32))).bind fun h2 =>
  (isO h2 a0 12).bind fun _ => cI (F_X12_areThere E a0 x1 x2 x3 h2) fun v9 h9 =>
  if ¬ v9 = 0 then
    cI (F_X12_within E ((x4).toInt64) (0 : Int64) (2 : Int64) h9) fun v28 h28 =>
    if ¬ v28 = 0 then
      L_X12_years_52 E
        (fun w1 w2 w3 h5 =>
          if ¬ x4 = 0 then
            if ¬ x4 = (1 : Int32) then
              rtI w3 h5
            else
              rtI w2 h5
          else
            rtI w1 h5)
        a0 x1 x2 x3 E.2.2.1 (0 : Int32) (-1 : Int32) (-1 : Int32) (0 : Int32) h28
    else
      (isO h28 a0 12).bind fun _ => cI (F_X12_fails E a0 (2 : Int32) h28) fun v36 h36 =>
      rtI v36 h36
  else
    (isO h9 a0 12).bind fun _ => cI (F_X12_fails E a0 (1 : Int32) h9) fun v17 h17 =>
    rtI v17 h17
def L_X12_two_125 (E : Ev)  (y0 : Nat) : Nat → Int32 → Int32 → Hp → Rs
  | 0, _, _, _ => none
  | g + 1, y8, y10, h =>
    if (40 : Int32) ≤ y10 then
      rtI y8 h
    else
      (gfR h y0 12 28).bind fun v135 =>
      (gaI E 2 h v135 y10).bind fun v140 =>
      if v140 = 0 then
        L_X12_two_125 E y0 g (y8 + (0 : Int32)) (y10 + (1 : Int32)) h
      else
        (gfR h y0 12 29).bind fun v145 =>
        (gaI E 2 h v145 y10).bind fun v150 =>
        if v150 = 0 then
          L_X12_two_125 E y0 g (y8 + (0 : Int32)) (y10 + (1 : Int32)) h
        else
          L_X12_two_125 E y0 g (y8 + (1 : Int32)) (y10 + (1 : Int32)) h
def L_X12_two_184 (E : Ev) (K210 : Hp → Rs) (y0 : Nat) : Nat → Int32 → Hp → Rs
  | 0, _, _ => none
  | g + 1, y9, h =>
    if (40 : Int32) ≤ y9 then
      K210 h
    else
      (gfR h y0 12 32).bind fun v192 =>
      (isO h y0 12).bind fun _ => cI (F_X12_shareAt E y0 y9 h) fun v200 h200 =>
      (paI E h200 v192 y9 v200).bind fun h203 =>
      L_X12_two_184 E K210 y0 g (y9 + (1 : Int32)) h203
def L_X12_two_224 (E : Ev)  (y0 : Nat) : Nat → Int32 → Int32 → Hp → Rs
  | 0, _, _, _ => none
  | g + 1, y8, y9, h =>
    if (40 : Int32) ≤ y9 then
      rtI y8 h
    else
      (gfR h y0 12 32).bind fun v234 =>
      (gaI E 0 h v234 y9).bind fun v239 =>
      (isO h y0 12).bind fun _ => cI (F_X12_shareAt E y0 y9 h) fun v244 h244 =>
      (dvL (((v239).toInt64) * ((v244).toInt64)) (1000000 : Int64)).bind fun v252 =>
      L_X12_two_224 E y0 g (y8 + ((v252).toInt32)) (y9 + (1 : Int32)) h244
def F_X12_two (E : Ev) (a0 : Nat) (x1 : Int32) (x2 : Int32) (x3 : Int32) (x4 : Int32) (x5 : Int32) (x6 : Int32) (x7 : Int32) (h : Hp) : Rs :=
  (pf h a0 12 3 (.int (0 : Int32))).bind fun h2 =>
  (isO h2 a0 12).bind fun _ => cI (F_X12_areThere E a0 x1 x5 x2 h2) fun v10 h10 =>
  if v10 = 0 then
    (isO h10 a0 12).bind fun _ => cI (F_X12_fails E a0 (1 : Int32) h10) fun v30 h30 =>
    rtI v30 h30
  else
    (isO h10 a0 12).bind fun _ => cI (F_X12_areThere E a0 x3 x5 x4 h10) fun v22 h22 =>
    if ¬ v22 = 0 then
      cI (F_X12_isYear E x6 h22) fun v36 h36 =>
      if v36 = 0 then
        (isO h36 a0 12).bind fun _ => cI (F_X12_fails E a0 (2 : Int32) h36) fun v55 h55 =>
        rtI v55 h55
      else
        cI (F_X12_within E ((x7).toInt64) (0 : Int64) (1 : Int64) h36) fun v47 h47 =>
        if ¬ v47 = 0 then
          if ¬ x7 = 0 then
            (isO h47 a0 12).bind fun _ => cV (F_X12_oddsFrom E a0 x1 x5 x2 x6 h47) fun h178 =>
            L_X12_two_184 E
              (fun h2 =>
                (isO h2 a0 12).bind fun _ => cV (F_X12_oddsFrom E a0 x3 x5 x4 x6 h2) fun h218 =>
                L_X12_two_224 E a0 E.2.2.1 (0 : Int32) (0 : Int32) h218)
              a0 E.2.2.1 (0 : Int32) h178
          else
            (isO h47 a0 12).bind fun _ => cI (F_X12_sayingsOf E a0 x1 h47) fun v76 h76 =>
            (isO h76 a0 12).bind fun _ => cI (F_X12_goes E a0 x1 x5 x2 x6 v76 h76) fun v79 h79 =>
            (gfR h79 a0 12 28).bind fun v86 =>
            (isO h79 a0 12).bind fun _ => cI (F_X12_placesOf E a0 v86 h79) fun v89 h89 =>
            (isO h89 a0 12).bind fun _ => cI (F_X12_sayingsOf E a0 x3 h89) fun v104 h104 =>
            (isO h104 a0 12).bind fun _ => cI (F_X12_goes E a0 x3 x5 x4 x6 v104 h104) fun v107 h107 =>
            (gfR h107 a0 12 29).bind fun v114 =>
            (isO h107 a0 12).bind fun _ => cI (F_X12_placesOf E a0 v114 h107) fun v117 h117 =>
            L_X12_two_125 E a0 E.2.2.1 (0 : Int32) (0 : Int32) h117
        else
          (isO h47 a0 12).bind fun _ => cI (F_X12_fails E a0 (2 : Int32) h47) fun v55 h55 =>
          rtI v55 h55
    else
      (isO h22 a0 12).bind fun _ => cI (F_X12_fails E a0 (1 : Int32) h22) fun v30 h30 =>
      rtI v30 h30
def L_X12_ask_121 (E : Ev) (K143 : Hp → Rs) (y0 : Nat) : Nat → Int32 → Hp → Rs
  | 0, _, _ => none
  | g + 1, y11, h =>
    if (240 : Int32) ≤ y11 then
      K143 h
    else
      (gfR h y0 12 30).bind fun v130 =>
      (paI E h v130 y11 (0 : Int32)).bind fun h136 =>
      L_X12_ask_121 E K143 y0 g (y11 + (1 : Int32)) h136
def L_X12_ask_88 (E : Ev)  (y0 : Nat) (y1 : Int32) (y2 : Int32) (y3 : Int32) (y4 : Int32) (y5 : Int32) (y6 : Int32) (y7 : Int32) : Nat → Int32 → Int32 → Int32 → Hp → Rs
  | 0, _, _, _, _ => none
  | g + 1, y8, y9, y10, h =>
    (isO h y0 12).bind fun _ => cI (F_X12_sayingsOf E y0 y1 h) fun v92 h92 =>
    if v92 ≤ y10 then
      if y7 = 0 then
        rtI y9 h92
      else
        rtI y8 h92
    else
      (isO h92 y0 12).bind fun _ => cI (F_X12_goes E y0 y1 y3 y4 y5 y10 h92) fun v107 h107 =>
      if y10 ≤ v107 then
        L_X12_ask_121 E
          (fun h2 =>
            (gfR h2 y0 12 26).bind fun v148 =>
            (gfR h2 y0 12 30).bind fun v152 =>
            (isO h2 y0 12).bind fun _ => cV (F_X12_parted E y0 (1000000 : Int32) v148 v152 h2) fun h155 =>
            (isO h155 y0 12).bind fun _ => cV (F_X12_oddsOn E y0 y1 y2 y10 h155) fun h163 =>
            (isO h163 y0 12).bind fun _ => cI (F_X12_goalOf E y0 y1 h163) fun v172 h172 =>
            (isO h172 y0 12).bind fun _ => cI (F_X12_shareAt E y0 v172 h172) fun v175 h175 =>
            lt (((1000000 : Int32) - v175) + y6) fun u3 =>
            if u3 < y8 then
              L_X12_ask_88 E y0 y1 y2 y3 y4 y5 y6 y7 g u3 y10 (y10 + (1 : Int32)) h175
            else
              L_X12_ask_88 E y0 y1 y2 y3 y4 y5 y6 y7 g y8 y9 (y10 + (1 : Int32)) h175)
          y0 E.2.2.1 (0 : Int32) h107
      else
        L_X12_ask_88 E y0 y1 y2 y3 y4 y5 y6 y7 g y8 y9 (y10 + (1 : Int32)) h107
def F_X12_ask (E : Ev) (a0 : Nat) (x1 : Int32) (x2 : Int32) (x3 : Int32) (x4 : Int32) (x5 : Int32) (x6 : Int32) (x7 : Int32) (h : Hp) : Rs :=
  (pf h a0 12 3 (.int (0 : Int32))).bind fun h2 =>
  (isO h2 a0 12).bind fun _ => cI (F_X12_areThere E a0 x1 x2 x4 h2) fun v10 h10 =>
  if v10 = 0 then
    (isO h10 a0 12).bind fun _ => cI (F_X12_fails E a0 (1 : Int32) h10) fun v26 h26 =>
    rtI v26 h26
  else
    (isO h10 a0 12).bind fun _ => cI (F_X12_isWalker E a0 x3 h10) fun v18 h18 =>
    if ¬ v18 = 0 then
      cI (F_X12_isYear E x5 h18) fun v32 h32 =>
      if v32 = 0 then
        (isO h32 a0 12).bind fun _ => cI (F_X12_fails E a0 (2 : Int32) h32) fun v53 h53 =>
        rtI v53 h53
      else
        cI (F_X12_within E ((x6).toInt64) (0 : Int64) (1000000 : Int64) h32) fun v45 h45 =>
        if ¬ v45 = 0 then
          (isO h45 a0 12).bind fun _ => cV (F_X12_oddsFrom E a0 x1 x2 x4 x5 h45) fun h64 =>
          (isO h64 a0 12).bind fun _ => cI (F_X12_goalOf E a0 x1 h64) fun v73 h73 =>
          (isO h73 a0 12).bind fun _ => cI (F_X12_shareAt E a0 v73 h73) fun v76 h76 =>
          lt ((1000000 : Int32) - v76) fun u1 =>
          L_X12_ask_88 E a0 x1 x2 x3 x4 x5 x6 x7 E.2.2.1 u1 (0 : Int32) (1 : Int32) h76
        else
          (isO h45 a0 12).bind fun _ => cI (F_X12_fails E a0 (2 : Int32) h45) fun v53 h53 =>
          rtI v53 h53
    else
      (isO h18 a0 12).bind fun _ => cI (F_X12_fails E a0 (1 : Int32) h18) fun v26 h26 =>
      rtI v26 h26
def L_X12_tries_118 (E : Ev)  (y0 : Nat) (y2 : Int32) (y3 : Int32) (y4 : Int32) (y5 : Int32) : Nat → Int32 → Hp → Rs
  | 0, _, _ => none
  | g + 1, y6, h =>
    (gfR h y0 12 0).bind fun v121 =>
    (gaI E 0 h v121 (4 : Int32)).bind fun v125 =>
    if v125 ≤ y6 then
      rtZ (1 : Int32) h
    else
      (gfI h y0 12 36).bind fun v130 =>
      if ¬ ((v130 >>> (y6 &&& 31)) &&& (1 : Int32)) = 0 then
        lt ((4 : Int32) * (((8 : Int32) * (y2 + (1 : Int32))) + y6)) fun u1 =>
        (gfR h y0 12 33).bind fun v158 =>
        cV (F_X12_empty E v158 u1 h) fun h163 =>
        (gfR h163 y0 12 33).bind fun v175 =>
        (gfR h163 y0 12 33).bind fun v188 =>
        (isO h163 y0 12).bind fun _ => cV (F_X12_word E y0 y3 y4 y5 y6 v175 ((4 : Int32) * (((8 : Int32) * y2) + y6)) v188 u1 h163) fun h193 =>
        (gfR h193 y0 12 33).bind fun v197 =>
        cI (F_X12_isNone E v197 u1 h193) fun v202 h202 =>
        if v202 = 0 then
          L_X12_tries_118 E y0 y2 y3 y4 y5 g (y6 + (1 : Int32)) h202
        else
          rtZ (0 : Int32) h202
      else
        L_X12_tries_118 E y0 y2 y3 y4 y5 g (y6 + (1 : Int32)) h
def J_X12_tries_90 (E : Ev)  (y0 : Nat) (y1 : Int32) (y2 : Int32) (y3 : Int32) (t0 : Int32) (h : Hp) : Rs :=
  if y1 ≤ (2 : Int32) then
    L_X12_tries_118 E y0 y2 y3 t0 (-1 : Int32) E.2.2.1 (0 : Int32) h
  else
    if (27 : Int32) ≤ y1 then
      L_X12_tries_118 E y0 y2 y3 t0 (-1 : Int32) E.2.2.1 (0 : Int32) h
    else
      (rmI (y1 - (3 : Int32)) (12 : Int32)).bind fun v108 =>
      L_X12_tries_118 E y0 y2 y3 t0 v108 E.2.2.1 (0 : Int32) h
def J_X12_tries_82 (E : Ev)  (y0 : Nat) (y1 : Int32) (y2 : Int32) (y3 : Int32) (t0 : Int32) (t1 : Int32) (h : Hp) : Rs :=
  (rmI (y1 - (27 : Int32)) (2 : Int32)).bind fun v88 =>
  J_X12_tries_90 E y0 y1 y2 y3 ((t0 * t1) + v88) h
def J_X12_tries_40 (E : Ev)  (y0 : Nat) (y1 : Int32) (y2 : Int32) (t0 : Int32) (h : Hp) : Rs :=
  if ¬ y1 = 0 then
    if (3 : Int32) ≤ y1 then
      if (27 : Int32) ≤ y1 then
        if (29 : Int32) ≤ y1 then
          J_X12_tries_82 E y0 y1 y2 t0 (2 : Int32) (2 : Int32) h
        else
          J_X12_tries_82 E y0 y1 y2 t0 (2 : Int32) (1 : Int32) h
      else
        J_X12_tries_90 E y0 y1 y2 t0 (0 : Int32) h
    else
      J_X12_tries_90 E y0 y1 y2 t0 (y1 - (1 : Int32)) h
  else
    J_X12_tries_90 E y0 y1 y2 t0 (1 : Int32) h
def F_X12_tries (E : Ev) (a0 : Nat) (x1 : Int32) (x2 : Int32) (h : Hp) : Rs :=
  if ¬ x1 = 0 then
    if (3 : Int32) ≤ x1 then
      if (15 : Int32) ≤ x1 then
        if (27 : Int32) ≤ x1 then
          J_X12_tries_40 E a0 x1 x2 (9 : Int32) h
        else
          J_X12_tries_40 E a0 x1 x2 (2 : Int32) h
      else
        J_X12_tries_40 E a0 x1 x2 (1 : Int32) h
    else
      J_X12_tries_40 E a0 x1 x2 (8 : Int32) h
  else
    J_X12_tries_40 E a0 x1 x2 (0 : Int32) h
def L_X12_areAll_14 (E : Ev) (K72 : Hp → Rs) (y0 : Nat) (y1 : Int32) (y2 : Int32) : Nat → Int32 → Hp → Rs
  | 0, _, _ => none
  | g + 1, y3, h =>
    if (240 : Int32) ≤ y3 then
      K72 h
    else
      (gfI h y0 12 36).bind fun v22 =>
      if ¬ ((v22 >>> (y2 &&& 31)) &&& (1 : Int32)) = (1 : Int32) then
        K72 h
      else
        (gfR h y0 12 33).bind fun v34 =>
        cI (F_X12_has E v34 ((4 : Int32) * (((8 : Int32) * y1) + y2)) y3 h) fun v46 h46 =>
        if v46 = 0 then
          L_X12_areAll_14 E K72 y0 y1 y2 g (y3 + (1 : Int32)) h46
        else
          (isO h46 y0 12).bind fun _ => cI (F_X12_placeOf E y0 y3 h46) fun v54 h54 =>
          (gfI h54 y0 12 35).bind fun v58 =>
          if v54 = v58 then
            L_X12_areAll_14 E K72 y0 y1 y2 g (y3 + (1 : Int32)) h54
          else
            rtZ (0 : Int32) h54
def L_X12_areAll_2 (E : Ev)  (y0 : Nat) (y1 : Int32) : Nat → Int32 → Hp → Rs
  | 0, _, _ => none
  | g + 1, y2, h =>
    (gfR h y0 12 0).bind fun v4 =>
    (gaI E 0 h v4 (4 : Int32)).bind fun v8 =>
    if v8 ≤ y2 then
      rtZ (1 : Int32) h
    else
      L_X12_areAll_14 E
        (fun h2 =>
          L_X12_areAll_2 E y0 y1 g (y2 + (1 : Int32)) h2)
        y0 y1 y2 E.2.2.1 (0 : Int32) h
def F_X12_areAll (E : Ev) (a0 : Nat) (x1 : Int32) (h : Hp) : Rs :=
  L_X12_areAll_2 E a0 x1 E.2.2.1 (0 : Int32) h
def L_X12_seek_13 (E : Ev) (Rc : Nat → Int32 → Int32 → Hp → Rs)  (y0 : Nat) (y1 : Int32) (y2 : Int32) : Nat → Int32 → Hp → Rs
  | 0, _, _ => none
  | g + 1, y3, h =>
    if (31 : Int32) ≤ y3 then
      rtZ (0 : Int32) h
    else
      (gfR h y0 12 34).bind fun v20 =>
      (paI E h v20 y1 y3).bind fun h25 =>
      (isO h25 y0 12).bind fun _ => cI (F_X12_tries E y0 y3 y1 h25) fun v29 h29 =>
      if v29 = 0 then
        L_X12_seek_13 E Rc y0 y1 y2 g (y3 + (1 : Int32)) h29
      else
        (isO h29 y0 12).bind fun _ => cI (Rc y0 (y1 + (1 : Int32)) y2 h29) fun v40 h40 =>
        if v40 = 0 then
          L_X12_seek_13 E Rc y0 y1 y2 g (y3 + (1 : Int32)) h40
        else
          rtZ (1 : Int32) h40
def F_X12_seek (E : Ev) : Nat → Nat → Int32 → Int32 → Hp → Rs
  | 0, _, _, _, _ => none
  | n + 1, a0, x1, x2, h =>
    if ¬ x1 = x2 then
      L_X12_seek_13 E (F_X12_seek E n) a0 x1 x2 E.2.2.1 (0 : Int32) h
    else
      (isO h a0 12).bind fun _ => cI (F_X12_areAll E a0 x1 h) fun v7 h7 =>
      rtZ v7 h7
def L_X12_shortest_89 (E : Ev) (K125 : Hp → Rs) (y0 : Nat) (y2 : Int32) : Nat → Int32 → Hp → Rs
  | 0, _, _ => none
  | g + 1, y7, h =>
    if (8 : Int32) ≤ y7 then
      K125 h
    else
      (gfR h y0 12 33).bind fun v97 =>
      cV (F_X12_empty E v97 ((4 : Int32) * y7) h) fun h104 =>
      (gfR h104 y0 12 33).bind fun v108 =>
      cV (F_X12_put E v108 ((4 : Int32) * y7) y2 h104) fun h116 =>
      L_X12_shortest_89 E K125 y0 y2 g (y7 + (1 : Int32)) h116
def L_X12_shortest_128 (E : Ev) (K148 : Int32 → Hp → Rs) (y0 : Nat) (y5 : Int32) : Nat → Int32 → Hp → Rs
  | 0, _, _ => none
  | g + 1, y7, h =>
    if y5 < y7 then
      rtI (-1 : Int32) h
    else
      (isO h y0 12).bind fun _ => cI (F_X12_seek E 4 y0 (0 : Int32) y7 h) fun v139 h139 =>
      if ¬ v139 = 0 then
        K148 y7 h139
      else
        L_X12_shortest_128 E K148 y0 y5 g (y7 + (1 : Int32)) h139
def F_X12_shortest (E : Ev) (a0 : Nat) (x1 : Int32) (x2 : Int32) (x3 : Int32) (x4 : Int32) (x5 : Int32) (x6 : Int32) (h : Hp) : Rs :=
  (pf h a0 12 3 (.int (0 : Int32))).bind fun h2 =>
  (isO h2 a0 12).bind fun _ => cI (F_X12_isState E a0 x2 h2) fun v7 h7 =>
  if v7 = 0 then
    (isO h7 a0 12).bind fun _ => cI (F_X12_fails E a0 (1 : Int32) h7) fun v23 h23 =>
    rtI v23 h23
  else
    (isO h7 a0 12).bind fun _ => cI (F_X12_isPlace E a0 x3 h7) fun v15 h15 =>
    if ¬ v15 = 0 then
      cI (F_X12_isYear E x4 h15) fun v29 h29 =>
      if v29 = 0 then
        (isO h29 a0 12).bind fun _ => cI (F_X12_fails E a0 (2 : Int32) h29) fun v66 h66 =>
        rtI v66 h66
      else
        if x1 ≤ 0 then
          (isO h29 a0 12).bind fun _ => cI (F_X12_fails E a0 (2 : Int32) h29) fun v66 h66 =>
          rtI v66 h66
        else
          (gfR h29 a0 12 0).bind fun v42 =>
          (gaI E 0 h29 v42 (4 : Int32)).bind fun v46 =>
          if ((1 : Int32) <<< (v46 &&& 31)) ≤ x1 then
            (isO h29 a0 12).bind fun _ => cI (F_X12_fails E a0 (2 : Int32) h29) fun v66 h66 =>
            rtI v66 h66
          else
            cI (F_X12_within E ((x5).toInt64) (1 : Int64) (3 : Int64) h29) fun v58 h58 =>
            if ¬ v58 = 0 then
              (isO h58 a0 12).bind fun _ => cV (F_X12_lay E a0 x4 h58) fun h73 =>
              (pf h73 a0 12 35 (.int x3)).bind fun h78 =>
              (pf h78 a0 12 36 (.int x1)).bind fun h83 =>
              L_X12_shortest_89 E
                (fun h2 =>
                  L_X12_shortest_128 E
                    (fun w3 h4 =>
                      if ¬ x6 = (-1 : Int32) then
                        cI (F_X12_within E ((x6).toInt64) (0 : Int64) (((w3 - (1 : Int32))).toInt64) h4) fun v168 h168 =>
                        if v168 = 0 then
                          rtI (-1 : Int32) h168
                        else
                          (gfR h168 a0 12 34).bind fun v175 =>
                          (gaI E 0 h168 v175 x6).bind fun v180 =>
                          rtI v180 h168
                      else
                        rtI w3 h4)
                    a0 x5 E.2.2.1 (1 : Int32) h2)
                a0 x2 E.2.2.1 (0 : Int32) h83
            else
              (isO h58 a0 12).bind fun _ => cI (F_X12_fails E a0 (2 : Int32) h58) fun v66 h66 =>
              rtI v66 h66
    else
      (isO h15 a0 12).bind fun _ => cI (F_X12_fails E a0 (1 : Int32) h15) fun v23 h23 =>
      rtI v23 h23
def F_X12_went (E : Ev) (a0 : Nat) (x1 : Int32) (x2 : Int32) (x3 : Int32) (x4 : Int32) (x5 : Int32) (h : Hp) : Rs :=
  (pf h a0 12 3 (.int (0 : Int32))).bind fun h2 =>
  (isO h2 a0 12).bind fun _ => cI (F_X12_areThere E a0 x2 x1 x3 h2) fun v9 h9 =>
  if v9 = 0 then
    (isO h9 a0 12).bind fun _ => cI (F_X12_fails E a0 (1 : Int32) h9) fun v26 h26 =>
    rtI v26 h26
  else
    (isO h9 a0 12).bind fun _ => cI (F_X12_isPlace E a0 x5 h9) fun v18 h18 =>
    if ¬ v18 = 0 then
      cI (F_X12_isYear E x4 h18) fun v32 h32 =>
      if ¬ v32 = 0 then
        (gfR h32 a0 12 0).bind fun v45 =>
        (gaI E 0 h32 v45 (6 : Int32)).bind fun v50 =>
        if ¬ v50 = (30 : Int32) then
          (isO h32 a0 12).bind fun _ => cI (F_X12_more E a0 (6 : Int32) h32) fun v65 h65 =>
          lt ((2838 : Int32) + ((5 : Int32) * v65)) fun u1 =>
          (gfR h65 a0 12 0).bind fun v73 =>
          (paI E h65 v73 u1 x1).bind fun h79 =>
          (gfR h79 a0 12 0).bind fun v81 =>
          (paI E h79 v81 (u1 + (1 : Int32)) x2).bind fun h89 =>
          (gfR h89 a0 12 0).bind fun v91 =>
          (paI E h89 v91 (u1 + (2 : Int32)) x3).bind fun h99 =>
          (gfR h99 a0 12 0).bind fun v101 =>
          (paI E h99 v101 (u1 + (3 : Int32)) x4).bind fun h110 =>
          (gfR h110 a0 12 0).bind fun v112 =>
          (paI E h110 v112 (u1 + (4 : Int32)) x5).bind fun h121 =>
          (gfR h121 a0 12 0).bind fun v123 =>
          (gaI E 0 h121 v123 (6 : Int32)).bind fun v128 =>
          rtI v128 h121
        else
          rtI (-1 : Int32) h32
      else
        (isO h32 a0 12).bind fun _ => cI (F_X12_fails E a0 (2 : Int32) h32) fun v40 h40 =>
        rtI v40 h40
    else
      (isO h18 a0 12).bind fun _ => cI (F_X12_fails E a0 (1 : Int32) h18) fun v26 h26 =>
      rtI v26 h26
def L_X12_isAsWent_2 (E : Ev)  (y0 : Nat) (y1 : Int32) : Nat → Int32 → Hp → Rs
  | 0, _, _ => none
  | g + 1, y2, h =>
    (gfR h y0 12 0).bind fun v4 =>
    (gaI E 0 h v4 (6 : Int32)).bind fun v9 =>
    if v9 ≤ y2 then
      rtZ (1 : Int32) h
    else
      lt ((2838 : Int32) + ((5 : Int32) * y2)) fun u1 =>
      (gfR h y0 12 0).bind fun v22 =>
      (gaI E 0 h v22 u1).bind fun v26 =>
      if v26 = y1 then
        (gfR h y0 12 0).bind fun v36 =>
        (gaI E 0 h v36 (u1 + (1 : Int32))).bind fun v42 =>
        (gfR h y0 12 0).bind fun v45 =>
        (gaI E 0 h v45 (u1 + (2 : Int32))).bind fun v51 =>
        (gfR h y0 12 0).bind fun v53 =>
        (gaI E 0 h v53 (u1 + (3 : Int32))).bind fun v59 =>
        (gfR h y0 12 0).bind fun v62 =>
        (gaI E 0 h v62 (u1 + (1 : Int32))).bind fun v68 =>
        (isO h y0 12).bind fun _ => cI (F_X12_sayingsOf E y0 v68 h) fun v69 h69 =>
        (isO h69 y0 12).bind fun _ => cI (F_X12_goes E y0 v42 y1 v51 v59 v69 h69) fun v72 h72 =>
        (gfR h72 y0 12 28).bind fun v79 =>
        (isO h72 y0 12).bind fun _ => cI (F_X12_placesOf E y0 v79 h72) fun v82 h82 =>
        (gfR h82 y0 12 28).bind fun v88 =>
        (gfR h82 y0 12 0).bind fun v92 =>
        (gaI E 0 h82 v92 (u1 + (4 : Int32))).bind fun v98 =>
        (gaI E 2 h82 v88 v98).bind fun v99 =>
        if ¬ v99 = 0 then
          L_X12_isAsWent_2 E y0 y1 g (y2 + (1 : Int32)) h82
        else
          rtZ (0 : Int32) h82
      else
        L_X12_isAsWent_2 E y0 y1 g (y2 + (1 : Int32)) h
def F_X12_isAsWent (E : Ev) (a0 : Nat) (x1 : Int32) (h : Hp) : Rs :=
  L_X12_isAsWent_2 E a0 x1 E.2.2.1 (0 : Int32) h
def L_X12_learned_62 (E : Ev) (K111 : Int32 → Hp → Rs) (y0 : Nat) (y1 : Int32) (y3 : Int32) : Nat → Int32 → Int32 → Hp → Rs
  | 0, _, _, _ => none
  | g + 1, y5, y6, h =>
    if (12 : Int32) ≤ y6 then
      K111 y5 h
    else
      (gfR h y0 12 0).bind fun v70 =>
      (paI E h v70 y3 ((1 : Int32) <<< (y6 &&& 31))).bind fun h78 =>
      (pf h78 y0 12 4 (.int (-1 : Int32))).bind fun h81 =>
      (isO h81 y0 12).bind fun _ => cI (F_X12_isAsWent E y0 y1 h81) fun v88 h88 =>
      if v88 = 0 then
        L_X12_learned_62 E K111 y0 y1 y3 g (y5 ||| (0 : Int32)) (y6 + (1 : Int32)) h88
      else
        lt (y5 ||| ((1 : Int32) <<< (y6 &&& 31))) fun u1 =>
        L_X12_learned_62 E K111 y0 y1 y3 g u1 (y6 + (1 : Int32)) h88
def F_X12_learned (E : Ev) (a0 : Nat) (x1 : Int32) (x2 : Int32) (h : Hp) : Rs :=
  (pf h a0 12 3 (.int (0 : Int32))).bind fun h2 =>
  (isO h2 a0 12).bind fun _ => cI (F_X12_isWalker E a0 x1 h2) fun v7 h7 =>
  if v7 = 0 then
    (isO h7 a0 12).bind fun _ => cI (F_X12_fails E a0 (1 : Int32) h7) fun v22 h22 =>
    rtI v22 h22
  else
    cI (F_X12_isName E x2 h7) fun v14 h14 =>
    if ¬ v14 = 0 then
      (gfR h14 a0 12 0).bind fun v32 =>
      (gaI E 0 h14 v32 ((722 : Int32) + ((5 : Int32) * x1))).bind fun v42 =>
      lt (((650 : Int32) + ((12 : Int32) * v42)) + x2) fun u1 =>
      (gfR h14 a0 12 0).bind fun v49 =>
      (gaI E 0 h14 v49 u1).bind fun v53 =>
      L_X12_learned_62 E
        (fun w2 h4 =>
          (gfR h4 a0 12 0).bind fun v112 =>
          (paI E h4 v112 u1 v53).bind fun h118 =>
          (pf h118 a0 12 4 (.int (-1 : Int32))).bind fun h121 =>
          rtI w2 h121)
        a0 x1 u1 E.2.2.1 (0 : Int32) (0 : Int32) h14
    else
      (isO h14 a0 12).bind fun _ => cI (F_X12_fails E a0 (1 : Int32) h14) fun v22 h22 =>
      rtI v22 h22
def L_X12_records_5 (E : Ev)  (y0 : Nat) (y1 : Int32) (y2 : Int32) : Nat → Int32 → Int32 → Hp → Rs
  | 0, _, _, _ => none
  | g + 1, y3, y4, h =>
    (gfR h y0 12 0).bind fun v8 =>
    (gaI E 0 h v8 (6 : Int32)).bind fun v13 =>
    if v13 ≤ y4 then
      rtI y3 h
    else
      lt ((2838 : Int32) + ((5 : Int32) * y4)) fun u1 =>
      (gfR h y0 12 0).bind fun v28 =>
      (gaI E 0 h v28 (u1 + (1 : Int32))).bind fun v35 =>
      (gfR h y0 12 0).bind fun v40 =>
      (gaI E 0 h v40 (((762 : Int32) + ((173 : Int32) * v35)) + (1 : Int32))).bind fun v55 =>
      if ¬ v55 = y1 then
        L_X12_records_5 E y0 y1 y2 g (y3 + (0 : Int32)) (y4 + (1 : Int32)) h
      else
        if ¬ y2 = 0 then
          L_X12_records_5 E y0 y1 y2 g (y3 + (1 : Int32)) (y4 + (1 : Int32)) h
        else
          (gfR h y0 12 0).bind fun v65 =>
          (gaI E 0 h v65 (u1 + (4 : Int32))).bind fun v72 =>
          (isO h y0 12).bind fun _ => cI (F_X12_goalOf E y0 v35 h) fun v76 h76 =>
          if ¬ v72 = v76 then
            L_X12_records_5 E y0 y1 y2 g (y3 + (0 : Int32)) (y4 + (1 : Int32)) h76
          else
            L_X12_records_5 E y0 y1 y2 g (y3 + (1 : Int32)) (y4 + (1 : Int32)) h76
def F_X12_records (E : Ev) (a0 : Nat) (x1 : Int32) (x2 : Int32) (h : Hp) : Rs :=
  L_X12_records_5 E a0 x1 x2 E.2.2.1 (0 : Int32) (0 : Int32) h
def L_X12_teller_9 (E : Ev)  (y0 : Nat) : Nat → Int32 → Int32 → Hp → Rs
  | 0, _, _, _ => none
  | g + 1, y1, y2, h =>
    if (10 : Int32) ≤ y2 then
      rtI y1 h
    else
      (isO h y0 12).bind fun _ => cI (F_X12_records E y0 y2 (1 : Int32) h) fun v18 h18 =>
      if ¬ v18 = 0 then
        if y1 = (-1 : Int32) then
          L_X12_teller_9 E y0 g y2 (y2 + (1 : Int32)) h18
        else
          (isO h18 y0 12).bind fun _ => cI (F_X12_records E y0 y2 (0 : Int32) h18) fun v35 h35 =>
          (isO h35 y0 12).bind fun _ => cI (F_X12_records E y0 y1 (1 : Int32) h35) fun v41 h41 =>
          (isO h41 y0 12).bind fun _ => cI (F_X12_records E y0 y1 (0 : Int32) h41) fun v48 h48 =>
          (isO h48 y0 12).bind fun _ => cI (F_X12_records E y0 y2 (1 : Int32) h48) fun v54 h54 =>
          if (v35 * v41) ≤ (v48 * v54) then
            L_X12_teller_9 E y0 g y1 (y2 + (1 : Int32)) h54
          else
            L_X12_teller_9 E y0 g y2 (y2 + (1 : Int32)) h54
      else
        L_X12_teller_9 E y0 g y1 (y2 + (1 : Int32)) h18
def F_X12_teller (E : Ev) (a0 : Nat) (h : Hp) : Rs :=
  (pf h a0 12 3 (.int (0 : Int32))).bind fun h2 =>
  L_X12_teller_9 E a0 E.2.2.1 (-1 : Int32) (0 : Int32) h2
def F_X12_told (E : Ev) (a0 : Nat) (x1 : Int32) (x2 : Int32) (h : Hp) : Rs :=
  (pf h a0 12 3 (.int (0 : Int32))).bind fun h2 =>
  cI (F_X12_within E ((x1).toInt64) (0 : Int64) (9 : Int64) h2) fun v11 h11 =>
  if v11 = 0 then
    (isO h11 a0 12).bind fun _ => cI (F_X12_fails E a0 (1 : Int32) h11) fun v28 h28 =>
    rtI v28 h28
  else
    (isO h11 a0 12).bind fun _ => cI (F_X12_records E a0 x1 x2 h11) fun v20 h20 =>
    rtI v20 h20
def F_X12_isTray (E : Ev) (x0 : Int32) (h : Hp) : Rs :=
  cI (F_X12_within E ((x0).toInt64) (0 : Int64) (3 : Int64) h) fun v6 h6 =>
  rtZ v6 h6
def L_X12_tray_69 (E : Ev)  (y0 : Nat) (y1 : Int32) : Nat → Int32 → Hp → Rs
  | 0, _, _ => none
  | g + 1, y4, h =>
    if (12 : Int32) ≤ y4 then
      rtV h
    else
      (gfR h y0 12 39).bind fun v77 =>
      (paL E h v77 (((12 : Int32) * y1) + y4) (0 : Int64)).bind fun h88 =>
      L_X12_tray_69 E y0 y1 g (y4 + (1 : Int32)) h88
def J_X12_tray_41 (E : Ev)  (y0 : Nat) (y1 : Int32) (y2 : Int32) (y3 : Int32) (t0 : Nat) (t1 : Int32) (h : Hp) : Rs :=
  (pf h t0 12 3 (.int t1)).bind fun h41 =>
  (gfI h41 y0 12 3).bind fun v45 =>
  if v45 ≤ 0 then
    (gfR h41 y0 12 37).bind fun v53 =>
    (paI E h41 v53 y1 y2).bind fun h58 =>
    (gfR h58 y0 12 38).bind fun v60 =>
    (paI E h58 v60 y1 y3).bind fun h65 =>
    L_X12_tray_69 E y0 y1 E.2.2.1 (0 : Int32) h65
  else
    rtV h41
def F_X12_tray (E : Ev) (a0 : Nat) (x1 : Int32) (x2 : Int32) (x3 : Int32) (h : Hp) : Rs :=
  cI (F_X12_isTray E x1 h) fun v2 h2 =>
  if ¬ v2 = 0 then
    cI (F_X12_within E ((x2).toInt64) (0 : Int64) (3 : Int64) h2) fun v18 h18 =>
    if v18 = 0 then
      J_X12_tray_41 E a0 x1 x2 x3 a0 (2 : Int32) h18
    else
      cI (F_X12_within E ((x3).toInt64) (0 : Int64) (12 : Int64) h18) fun v30 h30 =>
      if ¬ v30 = 0 then
        J_X12_tray_41 E a0 x1 x2 x3 a0 (0 : Int32) h30
      else
        J_X12_tray_41 E a0 x1 x2 x3 a0 (2 : Int32) h30
  else
    J_X12_tray_41 E a0 x1 x2 x3 a0 (1 : Int32) h2
def F_X12_write (E : Ev) (a0 : Nat) (x1 : Int32) (x2 : Int32) (x3 : Int64) (h : Hp) : Rs :=
  (pf h a0 12 3 (.int (0 : Int32))).bind fun h2 =>
  cI (F_X12_isTray E x1 h2) fun v6 h6 =>
  if ¬ v6 = 0 then
    (gfR h6 a0 12 37).bind fun v20 =>
    (gaI E 0 h6 v20 x1).bind fun v24 =>
    if ¬ v24 = (-1 : Int32) then
      (gfR h6 a0 12 38).bind fun v40 =>
      (gaI E 0 h6 v40 x1).bind fun v44 =>
      cI (F_X12_within E ((x2).toInt64) (0 : Int64) (((v44 - (1 : Int32))).toInt64) h6) fun v48 h48 =>
      if ¬ v48 = 0 then
        (gfR h48 a0 12 37).bind fun v66 =>
        (gaI E 0 h48 v66 x1).bind fun v70 =>
        lt ((64 : Int32) - ((8 : Int32) <<< (v70 &&& 31))) fun u1 =>
        (gfR h48 a0 12 39).bind fun v76 =>
        (paL E h48 v76 (((12 : Int32) * x1) + x2) ((x3 <<< ((u1).toInt64 &&& 63)) >>> ((u1).toInt64 &&& 63))).bind fun h92 =>
        (gfR h92 a0 12 39).bind fun v94 =>
        (gaL E h92 v94 (((12 : Int32) * x1) + x2)).bind fun v103 =>
        rtL v103 h92
      else
        (isO h48 a0 12).bind fun _ => cI (F_X12_fails E a0 (3 : Int32) h48) fun v56 h56 =>
        rtL ((v56).toInt64) h56
    else
      (isO h6 a0 12).bind fun _ => cI (F_X12_fails E a0 (2 : Int32) h6) fun v31 h31 =>
      rtL ((v31).toInt64) h31
  else
    (isO h6 a0 12).bind fun _ => cI (F_X12_fails E a0 (1 : Int32) h6) fun v14 h14 =>
    rtL ((v14).toInt64) h14
def L_X12_say_74 (E : Ev) (K119 : Hp → Rs) (y0 : Nat) (y1 : Int32) : Nat → Int32 → Hp → Rs
  | 0, _, _ => none
  | g + 1, y4, h =>
    (gfR h y0 12 38).bind fun v77 =>
    (gaI E 0 h v77 y1).bind fun v81 =>
    if v81 ≤ y4 then
      K119 h
    else
      (gfR h y0 12 39).bind fun v86 =>
      (gaL E h v86 (((12 : Int32) * y1) + y4)).bind fun v96 =>
      cI (F_X12_within E v96 (0 : Int64) (30 : Int64) h) fun v101 h101 =>
      if ¬ v101 = 0 then
        L_X12_say_74 E K119 y0 y1 g (y4 + (1 : Int32)) h101
      else
        (isO h101 y0 12).bind fun _ => cI (F_X12_fails E y0 (3 : Int32) h101) fun v109 h109 =>
        rtI v109 h109
def J_X12_say_278 (E : Ev) (K140 : Int32 → Hp → Rs) (y0 : Nat) (y1 : Int32) (y4 : Int32) (y5 : Int32) (t0 : Nat) (t1 : Int32) (t2 : Int32) (t3 : Int32) (t4 : Int32) (h : Hp) : Rs :=
  (rmI (y5 - (27 : Int32)) (2 : Int32)).bind fun v285 =>
  (isO h t0 12).bind fun _ => cV (F_X12_lays E t0 t1 t2 ((t3 * t4) + v285) (-1 : Int32) h) fun h288 =>
  K140 (y4 + (1 : Int32)) h288
def L_X12_say_140 (E : Ev) (K297 : Hp → Rs) (y0 : Nat) (y1 : Int32) : Nat → Int32 → Hp → Rs
  | 0, _, _ => none
  | g + 1, y4, h =>
    (gfR h y0 12 38).bind fun v143 =>
    (gaI E 0 h v143 y1).bind fun v147 =>
    if v147 ≤ y4 then
      K297 h
    else
      (gfR h y0 12 39).bind fun v152 =>
      (gaL E h v152 (((12 : Int32) * y1) + y4)).bind fun v162 =>
      (gfR h y0 12 20).bind fun v167 =>
      (paI E h v167 ((3 : Int32) + y4) (0 : Int32)).bind fun h175 =>
      if ¬ ((v162).toInt32) = 0 then
        if (3 : Int32) ≤ ((v162).toInt32) then
          if (15 : Int32) ≤ ((v162).toInt32) then
            if (27 : Int32) ≤ ((v162).toInt32) then
              if (29 : Int32) ≤ ((v162).toInt32) then
                J_X12_say_278 E
                  (fun w1 h3 =>
                    L_X12_say_140 E K297 y0 y1 g w1 h3)
                  y0 y1 y4 ((v162).toInt32) y0 y4 (9 : Int32) (2 : Int32) (2 : Int32) h175
              else
                J_X12_say_278 E
                  (fun w4 h6 =>
                    L_X12_say_140 E K297 y0 y1 g w4 h6)
                  y0 y1 y4 ((v162).toInt32) y0 y4 (9 : Int32) (2 : Int32) (1 : Int32) h175
            else
              (isO h175 y0 12).bind fun _ => cV (F_X12_lays E y0 y4 (2 : Int32) (0 : Int32) (((v162).toInt32) - (15 : Int32)) h175) fun h254 =>
              L_X12_say_140 E K297 y0 y1 g (y4 + (1 : Int32)) h254
          else
            (isO h175 y0 12).bind fun _ => cV (F_X12_lays E y0 y4 (1 : Int32) (0 : Int32) (((v162).toInt32) - (3 : Int32)) h175) fun h231 =>
            L_X12_say_140 E K297 y0 y1 g (y4 + (1 : Int32)) h231
        else
          (isO h175 y0 12).bind fun _ => cV (F_X12_lays E y0 y4 (8 : Int32) (((v162).toInt32) - (1 : Int32)) (-1 : Int32) h175) fun h209 =>
          L_X12_say_140 E K297 y0 y1 g (y4 + (1 : Int32)) h209
      else
        (isO h175 y0 12).bind fun _ => cV (F_X12_lays E y0 y4 (0 : Int32) (1 : Int32) (-1 : Int32) h175) fun h187 =>
        L_X12_say_140 E K297 y0 y1 g (y4 + (1 : Int32)) h187
def F_X12_say (E : Ev) (a0 : Nat) (x1 : Int32) (x2 : Int32) (x3 : Int32) (h : Hp) : Rs :=
  (pf h a0 12 3 (.int (0 : Int32))).bind fun h2 =>
  cI (F_X12_isTray E x1 h2) fun v6 h6 =>
  if v6 = 0 then
    (isO h6 a0 12).bind fun _ => cI (F_X12_fails E a0 (1 : Int32) h6) fun v22 h22 =>
    rtI v22 h22
  else
    (isO h6 a0 12).bind fun _ => cI (F_X12_isPlace E a0 x2 h6) fun v14 h14 =>
    if ¬ v14 = 0 then
      (gfR h14 a0 12 37).bind fun v27 =>
      (gaI E 0 h14 v27 x1).bind fun v31 =>
      if ¬ v31 = (-1 : Int32) then
        (gfR h14 a0 12 38).bind fun v43 =>
        (gaI E 0 h14 v43 x1).bind fun v47 =>
        if (10 : Int32) < v47 then
          (isO h14 a0 12).bind fun _ => cI (F_X12_fails E a0 (3 : Int32) h14) fun v67 h67 =>
          rtI v67 h67
        else
          cI (F_X12_within E ((x3).toInt64) (0 : Int64) (9 : Int64) h14) fun v59 h59 =>
          if ¬ v59 = 0 then
            L_X12_say_74 E
              (fun h2 =>
                (gfR h2 a0 12 0).bind fun v120 =>
                (gaI E 0 h2 v120 (5 : Int32)).bind fun v124 =>
                if ¬ v124 = (12 : Int32) then
                  (pf h2 a0 12 16 (.int (0 : Int32))).bind fun h134 =>
                  L_X12_say_140 E
                    (fun h5 =>
                      (gfR h5 a0 12 38).bind fun v301 =>
                      (gaI E 0 h5 v301 x1).bind fun v305 =>
                      (isO h5 a0 12).bind fun _ => cI (F_X12_keeps E a0 x2 x3 v305 h5) fun v306 h306 =>
                      rtI v306 h306)
                    a0 x1 E.2.2.1 (0 : Int32) h134
                else
                  rtI (-1 : Int32) h2)
              a0 x1 E.2.2.1 (0 : Int32) h59
          else
            (isO h59 a0 12).bind fun _ => cI (F_X12_fails E a0 (3 : Int32) h59) fun v67 h67 =>
            rtI v67 h67
      else
        (isO h14 a0 12).bind fun _ => cI (F_X12_fails E a0 (2 : Int32) h14) fun v38 h38 =>
        rtI v38 h38
    else
      (isO h14 a0 12).bind fun _ => cI (F_X12_fails E a0 (1 : Int32) h14) fun v22 h22 =>
      rtI v22 h22
def L_X12_image_38 (E : Ev)  (y0 : Nat) (y1 : Int32) : Nat → Int32 → Hp → Rs
  | 0, _, _ => none
  | g + 1, y2, h =>
    if (2988 : Int32) ≤ y2 then
      rtV h
    else
      (gfR h y0 12 1).bind fun v46 =>
      (gfR h y0 12 0).bind fun v57 =>
      (gaI E 0 h v57 y2).bind fun v61 =>
      (paI E h v46 (((2988 : Int32) * y1) + y2) v61).bind fun h62 =>
      L_X12_image_38 E y0 y1 g (y2 + (1 : Int32)) h62
def J_X12_image_18 (E : Ev)  (y0 : Nat) (y1 : Int32) (t0 : Nat) (t1 : Int32) (h : Hp) : Rs :=
  (pf h t0 12 3 (.int t1)).bind fun h18 =>
  (gfI h18 y0 12 3).bind fun v22 =>
  if v22 ≤ 0 then
    (gfR h18 y0 12 2).bind fun v30 =>
    (paZ E h18 v30 y1 (1 : Int32)).bind fun h35 =>
    L_X12_image_38 E y0 y1 E.2.2.1 (0 : Int32) h35
  else
    rtV h18
def F_X12_image (E : Ev) (a0 : Nat) (x1 : Int32) (h : Hp) : Rs :=
  cI (F_X12_within E ((x1).toInt64) (0 : Int64) (2 : Int64) h) fun v7 h7 =>
  if v7 = 0 then
    J_X12_image_18 E a0 x1 a0 (1 : Int32) h7
  else
    J_X12_image_18 E a0 x1 a0 (0 : Int32) h7
def L_X12_restore_49 (E : Ev)  (y0 : Nat) (y1 : Int32) : Nat → Int32 → Hp → Rs
  | 0, _, _ => none
  | g + 1, y2, h =>
    if (2988 : Int32) ≤ y2 then
      rtV h
    else
      (gfR h y0 12 0).bind fun v57 =>
      (gfR h y0 12 1).bind fun v62 =>
      (gaI E 0 h v62 (((2988 : Int32) * y1) + y2)).bind fun v72 =>
      (paI E h v57 y2 v72).bind fun h73 =>
      L_X12_restore_49 E y0 y1 g (y2 + (1 : Int32)) h73
def J_X12_restore_31 (E : Ev)  (y0 : Nat) (y1 : Int32) (t0 : Nat) (t1 : Int32) (h : Hp) : Rs :=
  (pf h t0 12 3 (.int t1)).bind fun h31 =>
  (gfI h31 y0 12 3).bind fun v35 =>
  if v35 ≤ 0 then
    (pf h31 y0 12 4 (.int (-1 : Int32))).bind fun h44 =>
    L_X12_restore_49 E y0 y1 E.2.2.1 (0 : Int32) h44
  else
    rtV h31
def F_X12_restore (E : Ev) (a0 : Nat) (x1 : Int32) (h : Hp) : Rs :=
  cI (F_X12_within E ((x1).toInt64) (0 : Int64) (2 : Int64) h) fun v7 h7 =>
  if ¬ v7 = 0 then
    (gfR h7 a0 12 2).bind fun v18 =>
    (gaI E 2 h7 v18 x1).bind fun v22 =>
    if ¬ v22 = 0 then
      J_X12_restore_31 E a0 x1 a0 (0 : Int32) h7
    else
      J_X12_restore_31 E a0 x1 a0 (2 : Int32) h7
  else
    J_X12_restore_31 E a0 x1 a0 (1 : Int32) h7
def F_X12_count (E : Ev) (a0 : Nat) (x1 : Int32) (h : Hp) : Rs :=
  (pf h a0 12 3 (.int (0 : Int32))).bind fun h2 =>
  cI (F_X12_within E ((x1).toInt64) (0 : Int64) (6 : Int64) h2) fun v11 h11 =>
  if v11 = 0 then
    if ¬ x1 = (7 : Int32) then
      rtI (-1 : Int32) h11
    else
      (gfI h11 a0 12 10).bind fun v33 =>
      rtI v33 h11
  else
    (gfR h11 a0 12 0).bind fun v18 =>
    (gaI E 0 h11 v18 x1).bind fun v22 =>
    rtI v22 h11
def F_L_place (E : Ev) (a0 : Nat) (x1 : Int32) (x2 : Int32) (a3 : Nat) (h : Hp) : Rs :=
  (isO h a0 11).bind fun _ => xI (F_X11_place E a0 x1 x2 h) (fun ex hx =>
      if ex = "java/lang/IllegalArgumentException" then
        rtI (1 : Int32) hx
      else
      none)
    fun v5 h5 =>
  (paL E h5 a3 (0 : Int32) ((v5).toInt64)).bind fun h9 =>
  rtI (0 : Int32) h9
def F_L_way (E : Ev) (a0 : Nat) (x1 : Int32) (x2 : Int32) (x3 : Int32) (x4 : Int32) (x5 : Int32) (x6 : Int32) (a7 : Nat) (h : Hp) : Rs :=
  (isO h a0 11).bind fun _ => xI (F_X11_way E a0 x1 x2 x3 x4 x5 x6 h) (fun ex hx =>
      if ex = "java/lang/IllegalArgumentException" then
        rtI (2 : Int32) hx
      else
      if ex = "java/util/NoSuchElementException" then
        rtI (1 : Int32) hx
      else
      none)
    fun v13 h13 =>
  (paL E h13 a7 (0 : Int32) ((v13).toInt64)).bind fun h17 =>
  rtI (0 : Int32) h17
def F_L_mark (E : Ev) (a0 : Nat) (x1 : Int32) (x2 : Int32) (x3 : Int32) (x4 : Int32) (x5 : Int32) (a6 : Nat) (h : Hp) : Rs :=
  (isO h a0 11).bind fun _ => xI (F_X11_mark E a0 x1 x2 x3 x4 x5 h) (fun ex hx =>
      if ex = "java/lang/IllegalArgumentException" then
        rtI (2 : Int32) hx
      else
      if ex = "java/util/NoSuchElementException" then
        rtI (1 : Int32) hx
      else
      none)
    fun v11 h11 =>
  (paL E h11 a6 (0 : Int32) ((v11).toInt64)).bind fun h15 =>
  rtI (0 : Int32) h15
def F_L_ends (E : Ev) (a0 : Nat) (x1 : Int32) (x2 : Int32) (x3 : Int32) (a4 : Nat) (h : Hp) : Rs :=
  (isO h a0 11).bind fun _ => xI (F_X11_ends E a0 x1 x2 x3 h) (fun ex hx =>
      if ex = "java/lang/IllegalArgumentException" then
        rtI (2 : Int32) hx
      else
      if ex = "java/util/NoSuchElementException" then
        rtI (1 : Int32) hx
      else
      none)
    fun v7 h7 =>
  (paL E h7 a4 (0 : Int32) ((v7).toInt64)).bind fun h11 =>
  rtI (0 : Int32) h11
def F_L_state (E : Ev) (a0 : Nat) (x1 : Int32) (x2 : Int32) (a3 : Nat) (h : Hp) : Rs :=
  (isO h a0 11).bind fun _ => xI (F_X11_state E a0 x1 x2 h) (fun ex hx =>
      if ex = "java/lang/IllegalArgumentException" then
        rtI (2 : Int32) hx
      else
      if ex = "java/util/NoSuchElementException" then
        rtI (1 : Int32) hx
      else
      none)
    fun v5 h5 =>
  (paL E h5 a3 (0 : Int32) ((v5).toInt64)).bind fun h9 =>
  rtI (0 : Int32) h9
def F_L_out (E : Ev) (a0 : Nat) (x1 : Int32) (x2 : Int32) (x3 : Int32) (a4 : Nat) (h : Hp) : Rs :=
  (isO h a0 11).bind fun _ => xI (F_X11_out E a0 x1 x2 x3 h) (fun ex hx =>
      if ex = "java/lang/IllegalArgumentException" then
        rtI (2 : Int32) hx
      else
      if ex = "java/util/NoSuchElementException" then
        rtI (1 : Int32) hx
      else
      none)
    fun v7 h7 =>
  (paL E h7 a4 (0 : Int32) ((v7).toInt64)).bind fun h11 =>
  rtI (0 : Int32) h11
def F_L_on (E : Ev) (a0 : Nat) (x1 : Int32) (x2 : Int32) (x3 : Int32) (a4 : Nat) (h : Hp) : Rs :=
  (isO h a0 11).bind fun _ => xI (F_X11_on E a0 x1 x2 x3 h) (fun ex hx =>
      if ex = "java/lang/IllegalArgumentException" then
        rtI (2 : Int32) hx
      else
      if ex = "java/util/NoSuchElementException" then
        rtI (1 : Int32) hx
      else
      none)
    fun v7 h7 =>
  (paL E h7 a4 (0 : Int32) ((v7).toInt64)).bind fun h11 =>
  rtI (0 : Int32) h11
def F_L_means (E : Ev) (a0 : Nat) (x1 : Int32) (x2 : Int32) (x3 : Int32) (a4 : Nat) (h : Hp) : Rs :=
  (isO h a0 11).bind fun _ => xI (F_X11_means E a0 x1 x2 x3 h) (fun ex hx =>
      if ex = "java/lang/IllegalArgumentException" then
        rtI (2 : Int32) hx
      else
      if ex = "java/util/NoSuchElementException" then
        rtI (1 : Int32) hx
      else
      none)
    fun v7 h7 =>
  (paL E h7 a4 (0 : Int32) ((v7).toInt64)).bind fun h11 =>
  rtI (0 : Int32) h11
def F_L_walker (E : Ev) (a0 : Nat) (x1 : Int32) (x2 : Int32) (x3 : Int32) (x4 : Int32) (x5 : Int32) (a6 : Nat) (h : Hp) : Rs :=
  (isO h a0 11).bind fun _ => xI (F_X11_walker E a0 x1 x2 x3 x4 x5 h) (fun ex hx =>
      if ex = "java/lang/IllegalArgumentException" then
        rtI (2 : Int32) hx
      else
      if ex = "java/util/NoSuchElementException" then
        rtI (1 : Int32) hx
      else
      none)
    fun v11 h11 =>
  (paL E h11 a6 (0 : Int32) ((v11).toInt64)).bind fun h15 =>
  rtI (0 : Int32) h15
def F_L_stands (E : Ev) (a0 : Nat) (x1 : Int32) (x2 : Int32) (x3 : Int32) (x4 : Int32) (x5 : Int32) (a6 : Nat) (h : Hp) : Rs :=
  (isO h a0 11).bind fun _ => xI (F_X11_stands E a0 x1 x2 x3 x4 x5 h) (fun ex hx =>
      if ex = "java/lang/IllegalArgumentException" then
        rtI (2 : Int32) hx
      else
      if ex = "java/util/NoSuchElementException" then
        rtI (1 : Int32) hx
      else
      none)
    fun v11 h11 =>
  if v11 = 0 then
    (paL E h11 a6 (0 : Int32) (0 : Int64)).bind fun h22 =>
    rtI (0 : Int32) h22
  else
    (paL E h11 a6 (0 : Int32) (1 : Int64)).bind fun h22 =>
    rtI (0 : Int32) h22
def F_L_worth (E : Ev) (a0 : Nat) (x1 : Int32) (x2 : Int32) (x3 : Int32) (x4 : Int32) (a5 : Nat) (h : Hp) : Rs :=
  (isO h a0 11).bind fun _ => xI (F_X11_worth E a0 x1 x2 x3 x4 h) (fun ex hx =>
      if ex = "java/lang/IllegalArgumentException" then
        rtI (2 : Int32) hx
      else
      if ex = "java/util/NoSuchElementException" then
        rtI (1 : Int32) hx
      else
      none)
    fun v9 h9 =>
  (paL E h9 a5 (0 : Int32) ((v9).toInt64)).bind fun h13 =>
  rtI (0 : Int32) h13
def F_L_telling (E : Ev) (a0 : Nat) (x1 : Int32) (x2 : Int32) (x3 : Int32) (a4 : Nat) (h : Hp) : Rs :=
  (isO h a0 11).bind fun _ => xI (F_X11_telling E a0 x1 x2 x3 h) (fun ex hx =>
      if ex = "java/lang/IllegalArgumentException" then
        rtI (2 : Int32) hx
      else
      if ex = "java/util/NoSuchElementException" then
        rtI (1 : Int32) hx
      else
      none)
    fun v7 h7 =>
  (paL E h7 a4 (0 : Int32) ((v7).toInt64)).bind fun h11 =>
  rtI (0 : Int32) h11
def F_L_sayings (E : Ev) (a0 : Nat) (x1 : Int32) (a2 : Nat) (h : Hp) : Rs :=
  (isO h a0 11).bind fun _ => xI (F_X11_sayings E a0 x1 h) (fun ex hx =>
      if ex = "java/util/NoSuchElementException" then
        rtI (1 : Int32) hx
      else
      none)
    fun v4 h4 =>
  (paL E h4 a2 (0 : Int32) ((v4).toInt64)).bind fun h8 =>
  rtI (0 : Int32) h8
def F_L_leads (E : Ev) (a0 : Nat) (x1 : Int32) (x2 : Int32) (x3 : Int32) (x4 : Int32) (x5 : Int32) (x6 : Int32) (a7 : Nat) (h : Hp) : Rs :=
  (isO h a0 11).bind fun _ => xI (F_X11_leads E a0 x1 x2 x3 x4 x5 x6 h) (fun ex hx =>
      if ex = "java/lang/IllegalArgumentException" then
        rtI (2 : Int32) hx
      else
      if ex = "java/util/NoSuchElementException" then
        rtI (1 : Int32) hx
      else
      none)
    fun v13 h13 =>
  (paL E h13 a7 (0 : Int32) ((v13).toInt64)).bind fun h17 =>
  rtI (0 : Int32) h17
def F_L_holds (E : Ev) (a0 : Nat) (x1 : Int32) (x2 : Int32) (x3 : Int32) (x4 : Int32) (a5 : Nat) (h : Hp) : Rs :=
  (isO h a0 11).bind fun _ => xI (F_X11_holds E a0 x1 x2 x3 x4 h) (fun ex hx =>
      if ex = "java/lang/IllegalArgumentException" then
        rtI (2 : Int32) hx
      else
      if ex = "java/util/NoSuchElementException" then
        rtI (1 : Int32) hx
      else
      none)
    fun v9 h9 =>
  (paL E h9 a5 (0 : Int32) ((v9).toInt64)).bind fun h13 =>
  rtI (0 : Int32) h13
def F_L_end (E : Ev) (a0 : Nat) (x1 : Int32) (x2 : Int32) (x3 : Int32) (x4 : Int32) (x5 : Int32) (a6 : Nat) (h : Hp) : Rs :=
  (isO h a0 11).bind fun _ => xI (F_X11_end E a0 x1 x2 x3 x4 x5 h) (fun ex hx =>
      if ex = "java/lang/IllegalArgumentException" then
        rtI (2 : Int32) hx
      else
      if ex = "java/util/NoSuchElementException" then
        rtI (1 : Int32) hx
      else
      none)
    fun v11 h11 =>
  (paL E h11 a6 (0 : Int32) ((v11).toInt64)).bind fun h15 =>
  rtI (0 : Int32) h15
def F_L_right (E : Ev) (a0 : Nat) (x1 : Int32) (x2 : Int32) (x3 : Int32) (x4 : Int32) (a5 : Nat) (h : Hp) : Rs :=
  (isO h a0 11).bind fun _ => xI (F_X11_right E a0 x1 x2 x3 x4 h) (fun ex hx =>
      if ex = "java/lang/IllegalArgumentException" then
        rtI (2 : Int32) hx
      else
      if ex = "java/util/NoSuchElementException" then
        rtI (1 : Int32) hx
      else
      none)
    fun v9 h9 =>
  if v9 = 0 then
    (paL E h9 a5 (0 : Int32) (0 : Int64)).bind fun h20 =>
    rtI (0 : Int32) h20
  else
    (paL E h9 a5 (0 : Int32) (1 : Int64)).bind fun h20 =>
    rtI (0 : Int32) h20
def F_L_odds (E : Ev) (a0 : Nat) (x1 : Int32) (x2 : Int32) (x3 : Int32) (x4 : Int32) (x5 : Int32) (a6 : Nat) (h : Hp) : Rs :=
  (isO h a0 11).bind fun _ => xI (F_X11_odds E a0 x1 x2 x3 x4 x5 h) (fun ex hx =>
      if ex = "java/lang/IllegalArgumentException" then
        rtI (2 : Int32) hx
      else
      if ex = "java/util/NoSuchElementException" then
        rtI (1 : Int32) hx
      else
      none)
    fun v11 h11 =>
  (paL E h11 a6 (0 : Int32) ((v11).toInt64)).bind fun h15 =>
  rtI (0 : Int32) h15
def F_L_parts (E : Ev) (a0 : Nat) (x1 : Int32) (x2 : Int32) (x3 : Int32) (x4 : Int32) (a5 : Nat) (h : Hp) : Rs :=
  (isO h a0 11).bind fun _ => xI (F_X11_parts E a0 x1 x2 x3 x4 h) (fun ex hx =>
      if ex = "java/lang/IllegalArgumentException" then
        rtI (2 : Int32) hx
      else
      if ex = "java/util/NoSuchElementException" then
        rtI (1 : Int32) hx
      else
      none)
    fun v9 h9 =>
  (paL E h9 a5 (0 : Int32) ((v9).toInt64)).bind fun h13 =>
  rtI (0 : Int32) h13
def F_L_hangs (E : Ev) (a0 : Nat) (x1 : Int32) (x2 : Int32) (x3 : Int32) (x4 : Int32) (x5 : Int32) (a6 : Nat) (h : Hp) : Rs :=
  (isO h a0 11).bind fun _ => xI (F_X11_hangs E a0 x1 x2 x3 x4 x5 h) (fun ex hx =>
      if ex = "java/lang/IllegalArgumentException" then
        rtI (2 : Int32) hx
      else
      if ex = "java/util/NoSuchElementException" then
        rtI (1 : Int32) hx
      else
      none)
    fun v11 h11 =>
  (paL E h11 a6 (0 : Int32) ((v11).toInt64)).bind fun h15 =>
  rtI (0 : Int32) h15
def F_L_years (E : Ev) (a0 : Nat) (x1 : Int32) (x2 : Int32) (x3 : Int32) (x4 : Int32) (a5 : Nat) (h : Hp) : Rs :=
  (isO h a0 11).bind fun _ => xI (F_X11_years E a0 x1 x2 x3 x4 h) (fun ex hx =>
      if ex = "java/lang/IllegalArgumentException" then
        rtI (2 : Int32) hx
      else
      if ex = "java/util/NoSuchElementException" then
        rtI (1 : Int32) hx
      else
      none)
    fun v9 h9 =>
  (paL E h9 a5 (0 : Int32) ((v9).toInt64)).bind fun h13 =>
  rtI (0 : Int32) h13
def F_L_two (E : Ev) (a0 : Nat) (x1 : Int32) (x2 : Int32) (x3 : Int32) (x4 : Int32) (x5 : Int32) (x6 : Int32) (x7 : Int32) (a8 : Nat) (h : Hp) : Rs :=
  (isO h a0 11).bind fun _ => xI (F_X11_two E a0 x1 x2 x3 x4 x5 x6 x7 h) (fun ex hx =>
      if ex = "java/lang/IllegalArgumentException" then
        rtI (2 : Int32) hx
      else
      if ex = "java/util/NoSuchElementException" then
        rtI (1 : Int32) hx
      else
      none)
    fun v15 h15 =>
  (paL E h15 a8 (0 : Int32) ((v15).toInt64)).bind fun h19 =>
  rtI (0 : Int32) h19
def F_L_ask (E : Ev) (a0 : Nat) (x1 : Int32) (x2 : Int32) (x3 : Int32) (x4 : Int32) (x5 : Int32) (x6 : Int32) (x7 : Int32) (a8 : Nat) (h : Hp) : Rs :=
  (isO h a0 11).bind fun _ => xI (F_X11_ask E a0 x1 x2 x3 x4 x5 x6 x7 h) (fun ex hx =>
      if ex = "java/lang/IllegalArgumentException" then
        rtI (2 : Int32) hx
      else
      if ex = "java/util/NoSuchElementException" then
        rtI (1 : Int32) hx
      else
      none)
    fun v15 h15 =>
  (paL E h15 a8 (0 : Int32) ((v15).toInt64)).bind fun h19 =>
  rtI (0 : Int32) h19
def F_L_shortest (E : Ev) (a0 : Nat) (x1 : Int32) (x2 : Int32) (x3 : Int32) (x4 : Int32) (x5 : Int32) (x6 : Int32) (a7 : Nat) (h : Hp) : Rs :=
  (isO h a0 11).bind fun _ => xI (F_X11_shortest E a0 x1 x2 x3 x4 x5 x6 h) (fun ex hx =>
      if ex = "java/lang/IllegalArgumentException" then
        rtI (2 : Int32) hx
      else
      if ex = "java/util/NoSuchElementException" then
        rtI (1 : Int32) hx
      else
      none)
    fun v13 h13 =>
  (paL E h13 a7 (0 : Int32) ((v13).toInt64)).bind fun h17 =>
  rtI (0 : Int32) h17
def F_L_went (E : Ev) (a0 : Nat) (x1 : Int32) (x2 : Int32) (x3 : Int32) (x4 : Int32) (x5 : Int32) (a6 : Nat) (h : Hp) : Rs :=
  (isO h a0 11).bind fun _ => xI (F_X11_went E a0 x1 x2 x3 x4 x5 h) (fun ex hx =>
      if ex = "java/lang/IllegalArgumentException" then
        rtI (2 : Int32) hx
      else
      if ex = "java/util/NoSuchElementException" then
        rtI (1 : Int32) hx
      else
      none)
    fun v11 h11 =>
  (paL E h11 a6 (0 : Int32) ((v11).toInt64)).bind fun h15 =>
  rtI (0 : Int32) h15
def F_L_learned (E : Ev) (a0 : Nat) (x1 : Int32) (x2 : Int32) (a3 : Nat) (h : Hp) : Rs :=
  (isO h a0 11).bind fun _ => xI (F_X11_learned E a0 x1 x2 h) (fun ex hx =>
      if ex = "java/util/NoSuchElementException" then
        rtI (1 : Int32) hx
      else
      none)
    fun v5 h5 =>
  (paL E h5 a3 (0 : Int32) ((v5).toInt64)).bind fun h9 =>
  rtI (0 : Int32) h9
def F_L_told (E : Ev) (a0 : Nat) (x1 : Int32) (x2 : Int32) (a3 : Nat) (h : Hp) : Rs :=
  (isO h a0 11).bind fun _ => xI (F_X11_told E a0 x1 x2 h) (fun ex hx =>
      if ex = "java/lang/IllegalArgumentException" then
        rtI (1 : Int32) hx
      else
      none)
    fun v5 h5 =>
  (paL E h5 a3 (0 : Int32) ((v5).toInt64)).bind fun h9 =>
  rtI (0 : Int32) h9
def F_L_tray (E : Ev) (a0 : Nat) (x1 : Int32) (x2 : Int32) (x3 : Int32) (h : Hp) : Rs :=
  (isO h a0 11).bind fun _ => xV (F_X11_tray E a0 x1 x2 x3 h) (fun ex hx =>
      if ex = "java/lang/IllegalArgumentException" then
        rtI (2 : Int32) hx
      else
      if ex = "java/util/NoSuchElementException" then
        rtI (1 : Int32) hx
      else
      none)
    fun h4 =>
  rtI (0 : Int32) h4
def F_L_write (E : Ev) (a0 : Nat) (x1 : Int32) (x2 : Int32) (x3 : Int64) (a5 : Nat) (h : Hp) : Rs :=
  (isO h a0 11).bind fun _ => xL (F_X11_write E a0 x1 x2 x3 h) (fun ex hx =>
      if ex = "java/lang/IllegalStateException" then
        rtI (2 : Int32) hx
      else
      if ex = "java/lang/IndexOutOfBoundsException" then
        rtI (3 : Int32) hx
      else
      if ex = "java/util/NoSuchElementException" then
        rtI (1 : Int32) hx
      else
      none)
    fun v7 h7 =>
  (paL E h7 a5 (0 : Int32) v7).bind fun h10 =>
  rtI (0 : Int32) h10
def F_L_say (E : Ev) (a0 : Nat) (x1 : Int32) (x2 : Int32) (x3 : Int32) (a4 : Nat) (h : Hp) : Rs :=
  (isO h a0 11).bind fun _ => xI (F_X11_say E a0 x1 x2 x3 h) (fun ex hx =>
      if ex = "java/lang/IllegalArgumentException" then
        rtI (3 : Int32) hx
      else
      if ex = "java/lang/IllegalStateException" then
        rtI (2 : Int32) hx
      else
      if ex = "java/util/NoSuchElementException" then
        rtI (1 : Int32) hx
      else
      none)
    fun v7 h7 =>
  (paL E h7 a4 (0 : Int32) ((v7).toInt64)).bind fun h11 =>
  rtI (0 : Int32) h11
def F_L_restore (E : Ev) (a0 : Nat) (x1 : Int32) (h : Hp) : Rs :=
  (isO h a0 11).bind fun _ => xV (F_X11_restore E a0 x1 h) (fun ex hx =>
      if ex = "java/lang/IllegalStateException" then
        rtI (2 : Int32) hx
      else
      if ex = "java/util/NoSuchElementException" then
        rtI (1 : Int32) hx
      else
      none)
    fun h2 =>
  rtI (0 : Int32) h2
