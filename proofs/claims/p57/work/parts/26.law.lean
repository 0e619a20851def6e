def p_L_law_J1316 (xv : Nat → Int32) (Lc : Nat) (rec22 : tX1 → tX0 → tX0 → tX2 → tX3 → tX5 → Int32 → Option Unit) (rec1262 : tX1 → tX0 → tX0 → tX2 → tX3 → tX5 → (Nat → Int32) → Nat → (Nat → Int32) → Nat → Int32 → Int32 → Int32 → Int32 → Option Unit) (uH : tX1) (uC : tX0) (uT : tX0) (uI : tX2) (uM : tX3) (uG : tX5) (f1316_0 : (Nat → Int32)) (n1316_0 : Nat) (f1316_1 : (Nat → Int32)) (n1316_1 : Nat) (l1316_3 : Int32) (l1316_13 : Int32) (l1316_22 : Int32) (l1316_26 : Int32) : Option Unit :=
  gd l1316_26 n1316_1 (
  if (f1316_1 l1316_26.toNatClampNeg) = 0 then
    rec1262 uH uC uT uI uM uG f1316_0 n1316_0 f1316_1 n1316_1 l1316_3 l1316_13 l1316_22 (l1316_26 + 1)
  else
    bd (p_X4_isSubscriber uH uC uT uI uM l1316_26) (fun v116 =>
    if v116 = 0 then
      rec1262 uH uC uT uI uM uG f1316_0 n1316_0 f1316_1 n1316_1 l1316_3 l1316_13 l1316_22 (l1316_26 + 1)
    else
      if l1316_22 ≤ 0 then
        bd (p_X4_warmthOf uH uC uT uI uM l1316_26) (fun v117 =>
        gd l1316_26 n1316_0 (
        if v117 = ((f1316_0 l1316_26.toNatClampNeg) - (1 : Int32)) then
          rec1262 uH uC uT uI uM uG f1316_0 n1316_0 f1316_1 n1316_1 l1316_3 l1316_13 l1316_22 (l1316_26 + 1)
        else
          none))
      else
        bd (p_X4_warmthOf uH uC uT uI uM l1316_26) (fun v119 =>
        gd l1316_26 n1316_0 (
        if (f1316_0 l1316_26.toNatClampNeg) ≤ v119 then
          rec1262 uH uC uT uI uM uG f1316_0 n1316_0 f1316_1 n1316_1 l1316_3 l1316_13 l1316_22 (l1316_26 + 1)
        else
          none))))
def p_L_law_J1286 (xv : Nat → Int32) (Lc : Nat) (rec22 : tX1 → tX0 → tX0 → tX2 → tX3 → tX5 → Int32 → Option Unit) (rec1262 : tX1 → tX0 → tX0 → tX2 → tX3 → tX5 → (Nat → Int32) → Nat → (Nat → Int32) → Nat → Int32 → Int32 → Int32 → Int32 → Option Unit) (uH : tX1) (uC : tX0) (uT : tX0) (uI : tX2) (uM : tX3) (uG : tX5) (f1286_0 : (Nat → Int32)) (n1286_0 : Nat) (f1286_1 : (Nat → Int32)) (n1286_1 : Nat) (l1286_3 : Int32) (l1286_13 : Int32) (l1286_22 : Int32) (l1286_26 : Int32) : Option Unit :=
  gd l1286_26 n1286_1 (
  if (f1286_1 l1286_26.toNatClampNeg) = 0 then
    p_L_law_J1316 xv Lc rec22 rec1262 uH uC uT uI uM uG f1286_0 n1286_0 f1286_1 n1286_1 l1286_3 l1286_13 l1286_22 l1286_26
  else
    bd (p_X4_isSubscriber uH uC uT uI uM l1286_26) (fun v113 =>
    if v113 = 0 then
      gd l1286_26 n1286_0 (
      if 0 < (f1286_0 l1286_26.toNatClampNeg) then
        none
      else
        if 0 < l1286_22 then
          none
        else
          p_L_law_J1316 xv Lc rec22 rec1262 uH uC uT uI uM uG f1286_0 n1286_0 f1286_1 n1286_1 l1286_3 l1286_13 l1286_22 l1286_26)
    else
      p_L_law_J1316 xv Lc rec22 rec1262 uH uC uT uI uM uG f1286_0 n1286_0 f1286_1 n1286_1 l1286_3 l1286_13 l1286_22 l1286_26))
def p_L_law_L1262 (xv : Nat → Int32) (Lc : Nat) (rec22 : tX1 → tX0 → tX0 → tX2 → tX3 → tX5 → Int32 → Option Unit) : Nat → tX1 → tX0 → tX0 → tX2 → tX3 → tX5 → (Nat → Int32) → Nat → (Nat → Int32) → Nat → Int32 → Int32 → Int32 → Int32 → Option Unit
  | 0, _, _, _, _, _, _, _, _, _, _, _, _, _, _ => none
  | n + 1, uH, uC, uT, uI, uM, uG, f1262_0, n1262_0, f1262_1, n1262_1, l1262_3, l1262_13, l1262_22, l1262_26 =>
    if l1262_13 ≤ l1262_26 then
      bd (p_X4_calls uH uC uT uI uM) (fun v108 =>
      if v108 = 0 then
        bd (p_X4_goes uH uC uT uI uM) (fun v109 =>
        if v109 = 0 then
          rec22 uH uC uT uI uM uG (l1262_3 + 1)
        else
          none)
      else
        rec22 uH uC uT uI uM uG (l1262_3 + 1))
    else
      bd (p_X4_isSubscriber uH uC uT uI uM l1262_26) (fun v110 =>
      if v110 = 0 then
        p_L_law_J1286 xv Lc rec22 (p_L_law_L1262 xv Lc rec22 n) uH uC uT uI uM uG f1262_0 n1262_0 f1262_1 n1262_1 l1262_3 l1262_13 l1262_22 l1262_26
      else
        gd l1262_26 n1262_1 (
        if (f1262_1 l1262_26.toNatClampNeg) = 0 then
          none
        else
          p_L_law_J1286 xv Lc rec22 (p_L_law_L1262 xv Lc rec22 n) uH uC uT uI uM uG f1262_0 n1262_0 f1262_1 n1262_1 l1262_3 l1262_13 l1262_22 l1262_26))
def p_L_law_J1186 (xv : Nat → Int32) (Lc : Nat) (rec22 : tX1 → tX0 → tX0 → tX2 → tX3 → tX5 → Int32 → Option Unit) (uH : tX1) (uC : tX0) (uT : tX0) (uI : tX2) (uM : tX3) (uG : tX5) (f1186_0 : (Nat → Int32)) (n1186_0 : Nat) (f1186_1 : (Nat → Int32)) (n1186_1 : Nat) (l1186_3 : Int32) (l1186_6 : Int32) (l1186_13 : Int32) (l1186_20 : Int32) (l1186_22 : Int32) : Option Unit :=
  if l1186_22 ≤ 0 then
    p_L_law_L1262 xv Lc rec22 200 uH uC uT uI uM uG f1186_0 n1186_0 f1186_1 n1186_1 l1186_3 l1186_13 l1186_22 (0 : Int32)
  else
    bd (p_X4_thrillIn uH uC uT uI uM l1186_6) (fun v98 =>
    bd (p_X4_floorIn uH uC uT uI uM l1186_6) (fun v99 =>
    bd (p_X4_paragraphIn uH uC uT uI uM l1186_6) (fun v100 =>
    bd (p_X4_thrillOf uH uC uT uI uM v99 v100) (fun v101 =>
    if v98 = (v101 + l1186_20) then
      bd (p_X4_floorIn uH uC uT uI uM l1186_6) (fun v102 =>
      bd (p_X4_paragraphIn uH uC uT uI uM l1186_6) (fun v103 =>
      bd (p_X4_topicOf uH uC uT uI uM v102 v103) (fun v104 =>
      bd (p_X4_isForbidden uH uC uT uI uM v104) (fun v105 =>
      if v105 = 0 then
        bd (p_X4_hourIn uH uC uT uI uM l1186_6) (fun v106 =>
        bd (p_X4_hours uH uC uT uI uM) (fun v107 =>
        if v106 = (v107 - (1 : Int32)) then
          p_L_law_L1262 xv Lc rec22 200 uH uC uT uI uM uG f1186_0 n1186_0 f1186_1 n1186_1 l1186_3 l1186_13 l1186_22 (0 : Int32)
        else
          none))
      else
        none))))
    else
      none))))
def p_L_law_J1102 (xv : Nat → Int32) (Lc : Nat) (rec22 : tX1 → tX0 → tX0 → tX2 → tX3 → tX5 → Int32 → Option Unit) (uH : tX1) (uC : tX0) (uT : tX0) (uI : tX2) (uM : tX3) (uG : tX5) (f1102_0 : (Nat → Int32)) (n1102_0 : Nat) (f1102_1 : (Nat → Int32)) (n1102_1 : Nat) (l1102_3 : Int32) (l1102_6 : Int32) (l1102_13 : Int32) (l1102_19 : Int32) (l1102_20 : Int32) (l1102_21 : Int32) (l1102_22 : Int32) (l1102_24 : Int32) : Option Unit :=
  if l1102_22 < 0 then
    none
  else
    if l1102_24 < l1102_22 then
      none
    else
      bd (p_X4_cuts uH uC uT uI uM) (fun v93 =>
      if l1102_24 < ((l1102_22 + v93) - l1102_21) then
        none
      else
        bd (p_X4_instalments uH uC uT uI uM) (fun v94 =>
        if v94 = (l1102_6 + l1102_22) then
          if l1102_22 ≤ 0 then
            if l1102_19 ≤ 0 then
              bd (p_X4_suspense uH uC uT uI uM) (fun v95 =>
              if v95 = l1102_20 then
                p_L_law_J1186 xv Lc rec22 uH uC uT uI uM uG f1102_0 n1102_0 f1102_1 n1102_1 l1102_3 l1102_6 l1102_13 l1102_20 l1102_22
              else
                none)
            else
              bd (p_X4_suspense uH uC uT uI uM) (fun v96 =>
              if l1102_20 < v96 then
                p_L_law_J1186 xv Lc rec22 uH uC uT uI uM uG f1102_0 n1102_0 f1102_1 n1102_1 l1102_3 l1102_6 l1102_13 l1102_20 l1102_22
              else
                none)
          else
            bd (p_X4_suspense uH uC uT uI uM) (fun v97 =>
            if v97 = 0 then
              p_L_law_J1186 xv Lc rec22 uH uC uT uI uM uG f1102_0 n1102_0 f1102_1 n1102_1 l1102_3 l1102_6 l1102_13 l1102_20 l1102_22
            else
              none)
        else
          none))
def p_L_law_J1086 (xv : Nat → Int32) (Lc : Nat) (rec22 : tX1 → tX0 → tX0 → tX2 → tX3 → tX5 → Int32 → Option Unit) (uH : tX1) (uC : tX0) (uT : tX0) (uI : tX2) (uM : tX3) (uG : tX5) (f1086_0 : (Nat → Int32)) (n1086_0 : Nat) (f1086_1 : (Nat → Int32)) (n1086_1 : Nat) (l1086_3 : Int32) (l1086_6 : Int32) (l1086_13 : Int32) (l1086_19 : Int32) (l1086_20 : Int32) (l1086_21 : Int32) (l1086_22 : Int32) (l1086_24 : Int32) : Option Unit :=
  if (1 : Int32) < l1086_24 then
    none
  else
    if l1086_19 ≤ 0 then
      p_L_law_J1102 xv Lc rec22 uH uC uT uI uM uG f1086_0 n1086_0 f1086_1 n1086_1 l1086_3 l1086_6 l1086_13 l1086_19 l1086_20 l1086_21 l1086_22 l1086_24
    else
      if 0 < l1086_24 then
        none
      else
        p_L_law_J1102 xv Lc rec22 uH uC uT uI uM uG f1086_0 n1086_0 f1086_1 n1086_1 l1086_3 l1086_6 l1086_13 l1086_19 l1086_20 l1086_21 l1086_22 l1086_24
def p_L_law_J1063 (xv : Nat → Int32) (Lc : Nat) (rec22 : tX1 → tX0 → tX0 → tX2 → tX3 → tX5 → Int32 → Option Unit) (uH : tX1) (uC : tX0) (uT : tX0) (uI : tX2) (uM : tX3) (uG : tX5) (f1063_0 : (Nat → Int32)) (n1063_0 : Nat) (f1063_1 : (Nat → Int32)) (n1063_1 : Nat) (f1063_2 : (Nat → Int32)) (n1063_2 : Nat) (l1063_3 : Int32) (l1063_6 : Int32) (l1063_7 : Int32) (l1063_13 : Int32) (l1063_18 : Int32) (l1063_19 : Int32) (l1063_20 : Int32) (l1063_21 : Int32) (l1063_22 : Int32) (l1063_23 : Int32) (l1063_24 : Int32) : Option Unit :=
  if l1063_19 = 0 then
    if l1063_7 ≤ 0 then
      p_L_law_J1086 xv Lc rec22 uH uC uT uI uM uG f1063_1 n1063_1 f1063_2 n1063_2 l1063_3 l1063_6 l1063_13 l1063_19 l1063_20 l1063_21 l1063_22 l1063_24
    else
      if l1063_23 = 0 then
        gd l1063_18 n1063_0 (
        if (f1063_0 l1063_18.toNatClampNeg) = 0 then
          none
        else
          p_L_law_J1086 xv Lc rec22 uH uC uT uI uM uG f1063_1 n1063_1 f1063_2 n1063_2 l1063_3 l1063_6 l1063_13 l1063_19 l1063_20 l1063_21 l1063_22 l1063_24)
      else
        p_L_law_J1086 xv Lc rec22 uH uC uT uI uM uG f1063_1 n1063_1 f1063_2 n1063_2 l1063_3 l1063_6 l1063_13 l1063_19 l1063_20 l1063_21 l1063_22 l1063_24
  else
    p_L_law_J1086 xv Lc rec22 uH uC uT uI uM uG f1063_1 n1063_1 f1063_2 n1063_2 l1063_3 l1063_6 l1063_13 l1063_19 l1063_20 l1063_21 l1063_22 l1063_24
def p_L_law_J1019 (xv : Nat → Int32) (Lc : Nat) (rec22 : tX1 → tX0 → tX0 → tX2 → tX3 → tX5 → Int32 → Option Unit) (rec973 : tX1 → tX0 → tX0 → tX2 → tX3 → tX5 → (Nat → Int32) → Nat → (Nat → Int32) → Nat → (Nat → Int32) → Nat → Int32 → Int32 → Int32 → Int32 → Int32 → Int32 → Int32 → Int32 → Int32 → Int32 → Int32 → Int32 → Int32 → Int32 → Option Unit) (uH : tX1) (uC : tX0) (uT : tX0) (uI : tX2) (uM : tX3) (uG : tX5) (f1019_0 : (Nat → Int32)) (n1019_0 : Nat) (f1019_1 : (Nat → Int32)) (n1019_1 : Nat) (f1019_2 : (Nat → Int32)) (n1019_2 : Nat) (l1019_3 : Int32) (l1019_5 : Int32) (l1019_6 : Int32) (l1019_7 : Int32) (l1019_13 : Int32) (l1019_18 : Int32) (l1019_19 : Int32) (l1019_20 : Int32) (l1019_21 : Int32) (l1019_22 : Int32) (l1019_23 : Int32) (l1019_24 : Int32) (l1019_26 : Int32) : Option Unit :=
  rec973 uH uC uT uI uM uG f1019_0 n1019_0 f1019_1 n1019_1 f1019_2 n1019_2 l1019_3 l1019_5 l1019_6 l1019_7 l1019_13 l1019_18 l1019_19 l1019_20 l1019_21 l1019_22 l1019_23 l1019_24 (0 : Int32) (l1019_26 + 1)
def p_L_law_J1015 (xv : Nat → Int32) (Lc : Nat) (rec22 : tX1 → tX0 → tX0 → tX2 → tX3 → tX5 → Int32 → Option Unit) (rec973 : tX1 → tX0 → tX0 → tX2 → tX3 → tX5 → (Nat → Int32) → Nat → (Nat → Int32) → Nat → (Nat → Int32) → Nat → Int32 → Int32 → Int32 → Int32 → Int32 → Int32 → Int32 → Int32 → Int32 → Int32 → Int32 → Int32 → Int32 → Int32 → Option Unit) (uH : tX1) (uC : tX0) (uT : tX0) (uI : tX2) (uM : tX3) (uG : tX5) (f1015_0 : (Nat → Int32)) (n1015_0 : Nat) (f1015_1 : (Nat → Int32)) (n1015_1 : Nat) (f1015_2 : (Nat → Int32)) (n1015_2 : Nat) (l1015_3 : Int32) (l1015_5 : Int32) (l1015_6 : Int32) (l1015_7 : Int32) (l1015_13 : Int32) (l1015_18 : Int32) (l1015_19 : Int32) (l1015_20 : Int32) (l1015_21 : Int32) (l1015_22 : Int32) (l1015_23 : Int32) (l1015_24 : Int32) (l1015_26 : Int32) : Option Unit :=
  rec973 uH uC uT uI uM uG f1015_0 n1015_0 f1015_1 n1015_1 f1015_2 n1015_2 l1015_3 l1015_5 l1015_6 l1015_7 l1015_13 l1015_18 l1015_19 l1015_20 l1015_21 l1015_22 l1015_23 l1015_24 (1 : Int32) (l1015_26 + 1)
def p_L_law_L973 (xv : Nat → Int32) (Lc : Nat) (rec22 : tX1 → tX0 → tX0 → tX2 → tX3 → tX5 → Int32 → Option Unit) : Nat → tX1 → tX0 → tX0 → tX2 → tX3 → tX5 → (Nat → Int32) → Nat → (Nat → Int32) → Nat → (Nat → Int32) → Nat → Int32 → Int32 → Int32 → Int32 → Int32 → Int32 → Int32 → Int32 → Int32 → Int32 → Int32 → Int32 → Int32 → Int32 → Option Unit
  | 0, _, _, _, _, _, _, _, _, _, _, _, _, _, _, _, _, _, _, _, _, _, _, _, _, _, _ => none
  | n + 1, uH, uC, uT, uI, uM, uG, f973_0, n973_0, f973_1, n973_1, f973_2, n973_2, l973_3, l973_5, l973_6, l973_7, l973_13, l973_18, l973_19, l973_20, l973_21, l973_22, l973_23, l973_24, l973_25, l973_26 =>
    if l973_5 ≤ l973_26 then
      if l973_23 < (-1 : Int32) then
        none
      else
        if (1 : Int32) < l973_23 then
          none
        else
          if l973_23 = 0 then
            p_L_law_J1063 xv Lc rec22 uH uC uT uI uM uG f973_0 n973_0 f973_1 n973_1 f973_2 n973_2 l973_3 l973_6 l973_7 l973_13 l973_18 l973_19 l973_20 l973_21 l973_22 l973_23 l973_24
          else
            if 0 < l973_19 then
              none
            else
              if l973_25 = 0 then
                none
              else
                gd l973_18 n973_0 (
                if (f973_0 l973_18.toNatClampNeg) = 0 then
                  p_L_law_J1063 xv Lc rec22 uH uC uT uI uM uG f973_0 n973_0 f973_1 n973_1 f973_2 n973_2 l973_3 l973_6 l973_7 l973_13 l973_18 l973_19 l973_20 l973_21 l973_22 l973_23 l973_24
                else
                  none)
    else
      if l973_25 = 0 then
        gd l973_26 n973_0 (
        if (f973_0 l973_26.toNatClampNeg) = 0 then
          p_L_law_J1019 xv Lc rec22 (p_L_law_L973 xv Lc rec22 n) uH uC uT uI uM uG f973_0 n973_0 f973_1 n973_1 f973_2 n973_2 l973_3 l973_5 l973_6 l973_7 l973_13 l973_18 l973_19 l973_20 l973_21 l973_22 l973_23 l973_24 l973_26
        else
          if l973_23 ≤ 0 then
            if l973_18 ≤ l973_26 then
              p_L_law_J1019 xv Lc rec22 (p_L_law_L973 xv Lc rec22 n) uH uC uT uI uM uG f973_0 n973_0 f973_1 n973_1 f973_2 n973_2 l973_3 l973_5 l973_6 l973_7 l973_13 l973_18 l973_19 l973_20 l973_21 l973_22 l973_23 l973_24 l973_26
            else
              p_L_law_J1015 xv Lc rec22 (p_L_law_L973 xv Lc rec22 n) uH uC uT uI uM uG f973_0 n973_0 f973_1 n973_1 f973_2 n973_2 l973_3 l973_5 l973_6 l973_7 l973_13 l973_18 l973_19 l973_20 l973_21 l973_22 l973_23 l973_24 l973_26
          else
            if l973_26 ≤ l973_18 then
              p_L_law_J1019 xv Lc rec22 (p_L_law_L973 xv Lc rec22 n) uH uC uT uI uM uG f973_0 n973_0 f973_1 n973_1 f973_2 n973_2 l973_3 l973_5 l973_6 l973_7 l973_13 l973_18 l973_19 l973_20 l973_21 l973_22 l973_23 l973_24 l973_26
            else
              p_L_law_J1015 xv Lc rec22 (p_L_law_L973 xv Lc rec22 n) uH uC uT uI uM uG f973_0 n973_0 f973_1 n973_1 f973_2 n973_2 l973_3 l973_5 l973_6 l973_7 l973_13 l973_18 l973_19 l973_20 l973_21 l973_22 l973_23 l973_24 l973_26)
      else
        p_L_law_J1015 xv Lc rec22 (p_L_law_L973 xv Lc rec22 n) uH uC uT uI uM uG f973_0 n973_0 f973_1 n973_1 f973_2 n973_2 l973_3 l973_5 l973_6 l973_7 l973_13 l973_18 l973_19 l973_20 l973_21 l973_22 l973_23 l973_24 l973_26
def p_L_law_J936 (xv : Nat → Int32) (Lc : Nat) (rec22 : tX1 → tX0 → tX0 → tX2 → tX3 → tX5 → Int32 → Option Unit) (rec881 : tX1 → tX0 → tX0 → tX2 → tX3 → tX5 → (Nat → Int32) → Nat → (Nat → Int32) → Nat → (Nat → Int32) → Nat → (Nat → Int32) → Nat → Int32 → Int32 → Int32 → Int32 → Int32 → Int32 → Int32 → Int32 → Int32 → Int32 → Int32 → Int32 → Int32 → Option Unit) (uH : tX1) (uC : tX0) (uT : tX0) (uI : tX2) (uM : tX3) (uG : tX5) (f936_0 : (Nat → Int32)) (n936_0 : Nat) (f936_1 : (Nat → Int32)) (n936_1 : Nat) (f936_2 : (Nat → Int32)) (n936_2 : Nat) (f936_3 : (Nat → Int32)) (n936_3 : Nat) (l936_3 : Int32) (l936_5 : Int32) (l936_6 : Int32) (l936_7 : Int32) (l936_13 : Int32) (l936_18 : Int32) (l936_19 : Int32) (l936_20 : Int32) (l936_21 : Int32) (l936_22 : Int32) (l936_23 : Int32) (l936_24 : Int32) (l936_25 : Int32) : Option Unit :=
  bd (p_X4_nextParagraph uH uC uT uI uM l936_25) (fun v90 =>
  gd l936_25 n936_0 (
  if v90 = (f936_0 l936_25.toNatClampNeg) then
    rec881 uH uC uT uI uM uG f936_0 n936_0 f936_1 n936_1 f936_2 n936_2 f936_3 n936_3 l936_3 l936_5 l936_6 l936_7 l936_13 l936_18 l936_19 l936_20 l936_21 l936_22 l936_23 l936_24 (l936_25 + 1)
  else
    bd (p_X4_liftAt uH uC uT uI uM) (fun v92 =>
    if l936_25 = v92 then
      rec881 uH uC uT uI uM uG f936_0 n936_0 f936_1 n936_1 f936_2 n936_2 f936_3 n936_3 l936_3 l936_5 l936_6 l936_7 l936_13 l936_18 l936_19 l936_20 l936_21 l936_22 l936_23 l936_24 (l936_25 + 1)
    else
      none)))
def p_L_law_J905 (xv : Nat → Int32) (Lc : Nat) (rec22 : tX1 → tX0 → tX0 → tX2 → tX3 → tX5 → Int32 → Option Unit) (rec881 : tX1 → tX0 → tX0 → tX2 → tX3 → tX5 → (Nat → Int32) → Nat → (Nat → Int32) → Nat → (Nat → Int32) → Nat → (Nat → Int32) → Nat → Int32 → Int32 → Int32 → Int32 → Int32 → Int32 → Int32 → Int32 → Int32 → Int32 → Int32 → Int32 → Int32 → Option Unit) (uH : tX1) (uC : tX0) (uT : tX0) (uI : tX2) (uM : tX3) (uG : tX5) (f905_0 : (Nat → Int32)) (n905_0 : Nat) (f905_1 : (Nat → Int32)) (n905_1 : Nat) (f905_2 : (Nat → Int32)) (n905_2 : Nat) (f905_3 : (Nat → Int32)) (n905_3 : Nat) (l905_3 : Int32) (l905_5 : Int32) (l905_6 : Int32) (l905_7 : Int32) (l905_13 : Int32) (l905_18 : Int32) (l905_19 : Int32) (l905_20 : Int32) (l905_21 : Int32) (l905_22 : Int32) (l905_23 : Int32) (l905_24 : Int32) (l905_25 : Int32) : Option Unit :=
  gd l905_25 n905_1 (
  bd (p_X4_isCalled uH uC uT uI uM l905_25) (fun v87 =>
  if (f905_1 l905_25.toNatClampNeg) = v87 then
    p_L_law_J936 xv Lc rec22 rec881 uH uC uT uI uM uG f905_0 n905_0 f905_1 n905_1 f905_2 n905_2 f905_3 n905_3 l905_3 l905_5 l905_6 l905_7 l905_13 l905_18 l905_19 l905_20 l905_21 l905_22 l905_23 l905_24 l905_25
  else
    bd (p_X4_liftAt uH uC uT uI uM) (fun v88 =>
    if l905_25 = v88 then
      if (f905_1 l905_25.toNatClampNeg) = 0 then
        none
      else
        p_L_law_J936 xv Lc rec22 rec881 uH uC uT uI uM uG f905_0 n905_0 f905_1 n905_1 f905_2 n905_2 f905_3 n905_3 l905_3 l905_5 l905_6 l905_7 l905_13 l905_18 l905_19 l905_20 l905_21 l905_22 l905_23 l905_24 l905_25
    else
      none)))
def p_L_law_L881 (xv : Nat → Int32) (Lc : Nat) (rec22 : tX1 → tX0 → tX0 → tX2 → tX3 → tX5 → Int32 → Option Unit) : Nat → tX1 → tX0 → tX0 → tX2 → tX3 → tX5 → (Nat → Int32) → Nat → (Nat → Int32) → Nat → (Nat → Int32) → Nat → (Nat → Int32) → Nat → Int32 → Int32 → Int32 → Int32 → Int32 → Int32 → Int32 → Int32 → Int32 → Int32 → Int32 → Int32 → Int32 → Option Unit
  | 0, _, _, _, _, _, _, _, _, _, _, _, _, _, _, _, _, _, _, _, _, _, _, _, _, _, _, _ => none
  | n + 1, uH, uC, uT, uI, uM, uG, f881_0, n881_0, f881_1, n881_1, f881_2, n881_2, f881_3, n881_3, l881_3, l881_5, l881_6, l881_7, l881_13, l881_18, l881_19, l881_20, l881_21, l881_22, l881_23, l881_24, l881_25 =>
    if l881_5 ≤ l881_25 then
      p_L_law_L973 xv Lc rec22 200 uH uC uT uI uM uG f881_1 n881_1 f881_2 n881_2 f881_3 n881_3 l881_3 l881_5 l881_6 l881_7 l881_13 l881_18 l881_19 l881_20 l881_21 l881_22 l881_23 l881_24 (0 : Int32) (0 : Int32)
    else
      gd l881_25 n881_1 (
      bd (p_X4_isCalled uH uC uT uI uM l881_25) (fun v83 =>
      if (f881_1 l881_25.toNatClampNeg) = v83 then
        p_L_law_J905 xv Lc rec22 (p_L_law_L881 xv Lc rec22 n) uH uC uT uI uM uG f881_0 n881_0 f881_1 n881_1 f881_2 n881_2 f881_3 n881_3 l881_3 l881_5 l881_6 l881_7 l881_13 l881_18 l881_19 l881_20 l881_21 l881_22 l881_23 l881_24 l881_25
      else
        p_L_law_J905 xv Lc rec22 (p_L_law_L881 xv Lc rec22 n) uH uC uT uI uM uG f881_0 n881_0 f881_1 n881_1 f881_2 n881_2 f881_3 n881_3 l881_3 l881_5 l881_6 l881_7 l881_13 l881_18 l881_19 l881_20 l881_21 l881_22 l881_23 (l881_24 + 1) l881_25))
def p_L_law_J825 (xv : Nat → Int32) (Lc : Nat) (rec22 : tX1 → tX0 → tX0 → tX2 → tX3 → tX5 → Int32 → Option Unit) (uH : tX1) (uC : tX0) (uT : tX0) (uI : tX2) (uM : tX3) (uG : tX5) (f825_0 : (Nat → Int32)) (n825_0 : Nat) (f825_1 : (Nat → Int32)) (n825_1 : Nat) (f825_2 : (Nat → Int32)) (n825_2 : Nat) (f825_3 : (Nat → Int32)) (n825_3 : Nat) (l825_3 : Int32) (l825_5 : Int32) (l825_6 : Int32) (l825_7 : Int32) (l825_13 : Int32) (s825_0 : UInt64) (s825_1 : UInt64) : Option Unit :=
  if (Op.cmpValue (FP.dcmp s825_1 s825_0) CmpOp.l) = 0 then
    bd (p_X4_liftAt uH uC uT uI uM) (fun v74 =>
    bd (p_X4_stuckFor uH uC uT uI uM) (fun v75 =>
    bd (p_X4_suspense uH uC uT uI uM) (fun v76 =>
    bd (p_X4_cuts uH uC uT uI uM) (fun v77 =>
    bd (p_X4_passHours uH uC uT uI uM (1 : Int32)) (fun v78 =>
    bd (p_X5_pass uG) (fun v79 =>
    bd (p_X4_liftAt uH v78.2.1 uT v78.2.2 uM) (fun v81 =>
    p_L_law_L881 xv Lc rec22 200 uH v78.2.1 uT v78.2.2 uM v79 f825_0 n825_0 f825_1 n825_1 f825_2 n825_2 f825_3 n825_3 l825_3 l825_5 l825_6 l825_7 l825_13 v74 v75 v76 v77 v78.1 (v81 - v74) (0 : Int32) (0 : Int32))))))))
  else
    none
def p_L_law_J802 (xv : Nat → Int32) (Lc : Nat) (rec22 : tX1 → tX0 → tX0 → tX2 → tX3 → tX5 → Int32 → Option Unit) (uH : tX1) (uC : tX0) (uT : tX0) (uI : tX2) (uM : tX3) (uG : tX5) (f802_0 : (Nat → Int32)) (n802_0 : Nat) (f802_1 : (Nat → Int32)) (n802_1 : Nat) (f802_2 : (Nat → Int32)) (n802_2 : Nat) (f802_3 : (Nat → Int32)) (n802_3 : Nat) (l802_3 : Int32) (l802_5 : Int32) (l802_6 : Int32) (l802_7 : Int32) (l802_13 : Int32) (l802_16 : Int32) (l802_17 : Int32) (s802_0 : Int32) (s802_1 : Int32) : Option Unit :=
  if s802_1 = s802_0 then
    bd (p_X4_meanWarmth uH uC uT uI uM) (fun v68 =>
    if l802_16 = 0 then
      p_L_law_J825 xv Lc rec22 uH uC uT uI uM uG f802_0 n802_0 f802_1 n802_1 f802_2 n802_2 f802_3 n802_3 l802_3 l802_5 l802_6 l802_7 l802_13 FP.dconst0 v68
    else
      gq ((FP.ddiv (FP.i2d l802_17) (FP.i2d l802_16)) &&& 0x7fffffffffffffff ≤ 0x7ff0000000000000) (
      p_L_law_J825 xv Lc rec22 uH uC uT uI uM uG f802_0 n802_0 f802_1 n802_1 f802_2 n802_2 f802_3 n802_3 l802_3 l802_5 l802_6 l802_7 l802_13 (FP.ddiv (FP.i2d l802_17) (FP.i2d l802_16)) v68))
  else
    none
def p_L_law_J792 (xv : Nat → Int32) (Lc : Nat) (rec22 : tX1 → tX0 → tX0 → tX2 → tX3 → tX5 → Int32 → Option Unit) (uH : tX1) (uC : tX0) (uT : tX0) (uI : tX2) (uM : tX3) (uG : tX5) (f792_0 : (Nat → Int32)) (n792_0 : Nat) (f792_1 : (Nat → Int32)) (n792_1 : Nat) (f792_2 : (Nat → Int32)) (n792_2 : Nat) (f792_3 : (Nat → Int32)) (n792_3 : Nat) (l792_3 : Int32) (l792_5 : Int32) (l792_6 : Int32) (l792_7 : Int32) (l792_13 : Int32) (l792_16 : Int32) (l792_17 : Int32) (s792_0 : Int32) : Option Unit :=
  if l792_16 = 0 then
    p_L_law_J802 xv Lc rec22 uH uC uT uI uM uG f792_0 n792_0 f792_1 n792_1 f792_2 n792_2 f792_3 n792_3 l792_3 l792_5 l792_6 l792_7 l792_13 l792_16 l792_17 (1 : Int32) s792_0
  else
    p_L_law_J802 xv Lc rec22 uH uC uT uI uM uG f792_0 n792_0 f792_1 n792_1 f792_2 n792_2 f792_3 n792_3 l792_3 l792_5 l792_6 l792_7 l792_13 l792_16 l792_17 (0 : Int32) s792_0
def p_L_law_J739 (xv : Nat → Int32) (Lc : Nat) (rec22 : tX1 → tX0 → tX0 → tX2 → tX3 → tX5 → Int32 → Option Unit) (rec648 : tX1 → tX0 → tX0 → tX2 → tX3 → tX5 → (Nat → Int32) → Nat → (Nat → Int32) → Nat → (Nat → Int32) → Nat → (Nat → Int32) → Nat → Int32 → Int32 → Int32 → Int32 → Int32 → Int32 → Int32 → Int32 → Option Unit) (uH : tX1) (uC : tX0) (uT : tX0) (uI : tX2) (uM : tX3) (uG : tX5) (f739_0 : (Nat → Int32)) (n739_0 : Nat) (f739_1 : (Nat → Int32)) (n739_1 : Nat) (f739_2 : (Nat → Int32)) (n739_2 : Nat) (f739_3 : (Nat → Int32)) (n739_3 : Nat) (l739_3 : Int32) (l739_5 : Int32) (l739_6 : Int32) (l739_7 : Int32) (l739_13 : Int32) (l739_16 : Int32) (l739_17 : Int32) (l739_18 : Int32) : Option Unit :=
  gd l739_18 n739_3 (
  if (f739_3 l739_18.toNatClampNeg) = 0 then
    rec648 uH uC uT uI uM uG f739_0 n739_0 f739_1 n739_1 f739_2 n739_2 f739_3 n739_3 l739_3 l739_5 l739_6 l739_7 l739_13 l739_16 l739_17 (l739_18 + 1)
  else
    gd l739_18 n739_2 (
    bd (p_X4_warmest uH uC uT uI uM) (fun v72 =>
    bd (p_X4_warmthOf uH uC uT uI uM v72) (fun v73 =>
    if (f739_2 l739_18.toNatClampNeg) ≤ v73 then
      rec648 uH uC uT uI uM uG f739_0 n739_0 f739_1 n739_1 f739_2 n739_2 f739_3 n739_3 l739_3 l739_5 l739_6 l739_7 l739_13 l739_16 l739_17 (l739_18 + 1)
    else
      none))))
def p_L_law_J692 (xv : Nat → Int32) (Lc : Nat) (rec22 : tX1 → tX0 → tX0 → tX2 → tX3 → tX5 → Int32 → Option Unit) (rec648 : tX1 → tX0 → tX0 → tX2 → tX3 → tX5 → (Nat → Int32) → Nat → (Nat → Int32) → Nat → (Nat → Int32) → Nat → (Nat → Int32) → Nat → Int32 → Int32 → Int32 → Int32 → Int32 → Int32 → Int32 → Int32 → Option Unit) (uH : tX1) (uC : tX0) (uT : tX0) (uI : tX2) (uM : tX3) (uG : tX5) (f692_0 : (Nat → Int32)) (n692_0 : Nat) (f692_1 : (Nat → Int32)) (n692_1 : Nat) (f692_2 : (Nat → Int32)) (n692_2 : Nat) (f692_3 : (Nat → Int32)) (n692_3 : Nat) (l692_3 : Int32) (l692_5 : Int32) (l692_6 : Int32) (l692_7 : Int32) (l692_13 : Int32) (l692_17 : Int32) (l692_18 : Int32) (s692_0 : Int32) (s692_1 : Int32) : Option Unit :=
  gd l692_18 n692_2 (
  if (f692_2 l692_18.toNatClampNeg) < 0 then
    none
  else
    if (99 : Int32) < (f692_2 l692_18.toNatClampNeg) then
      none
    else
      gd l692_18 n692_3 (
      if (f692_3 l692_18.toNatClampNeg) = 0 then
        if 0 < (f692_2 l692_18.toNatClampNeg) then
          none
        else
          p_L_law_J739 xv Lc rec22 rec648 uH uC uT uI uM uG f692_0 n692_0 f692_1 n692_1 f692_2 n692_2 f692_3 n692_3 l692_3 l692_5 l692_6 l692_7 l692_13 (s692_1 + s692_0) (l692_17 + (f692_2 l692_18.toNatClampNeg)) l692_18
      else
        p_L_law_J739 xv Lc rec22 rec648 uH uC uT uI uM uG f692_0 n692_0 f692_1 n692_1 f692_2 n692_2 f692_3 n692_3 l692_3 l692_5 l692_6 l692_7 l692_13 (s692_1 + s692_0) (l692_17 + (f692_2 l692_18.toNatClampNeg)) l692_18))
def p_L_law_L648 (xv : Nat → Int32) (Lc : Nat) (rec22 : tX1 → tX0 → tX0 → tX2 → tX3 → tX5 → Int32 → Option Unit) : Nat → tX1 → tX0 → tX0 → tX2 → tX3 → tX5 → (Nat → Int32) → Nat → (Nat → Int32) → Nat → (Nat → Int32) → Nat → (Nat → Int32) → Nat → Int32 → Int32 → Int32 → Int32 → Int32 → Int32 → Int32 → Int32 → Option Unit
  | 0, _, _, _, _, _, _, _, _, _, _, _, _, _, _, _, _, _, _, _, _, _, _ => none
  | n + 1, uH, uC, uT, uI, uM, uG, f648_0, n648_0, f648_1, n648_1, f648_2, n648_2, f648_3, n648_3, l648_3, l648_5, l648_6, l648_7, l648_13, l648_16, l648_17, l648_18 =>
    if l648_13 ≤ l648_18 then
      bd (p_X4_subscribers uH uC uT uI uM) (fun v51 =>
      if l648_16 = v51 then
        bd (p_X4_warmest uH uC uT uI uM) (fun v52 =>
        if 0 ≤ v52 then
          p_L_law_J792 xv Lc rec22 uH uC uT uI uM uG f648_0 n648_0 f648_1 n648_1 f648_2 n648_2 f648_3 n648_3 l648_3 l648_5 l648_6 l648_7 l648_13 l648_16 l648_17 (0 : Int32)
        else
          p_L_law_J792 xv Lc rec22 uH uC uT uI uM uG f648_0 n648_0 f648_1 n648_1 f648_2 n648_2 f648_3 n648_3 l648_3 l648_5 l648_6 l648_7 l648_13 l648_16 l648_17 (1 : Int32))
      else
        none)
    else
      bd (p_X4_warmthOf uH uC uT uI uM l648_18) (fun v53 =>
      gd l648_18 n648_2 (
      bd (p_X4_isSubscriber uH uC uT uI uM l648_18) (fun v55 =>
      gd l648_18 n648_3 (
      if ((upd f648_3 l648_18.toNatClampNeg (vp_nar .boolean v55)) l648_18.toNatClampNeg) = 0 then
        p_L_law_J692 xv Lc rec22 (p_L_law_L648 xv Lc rec22 n) uH uC uT uI uM uG f648_0 n648_0 f648_1 n648_1 (upd f648_2 l648_18.toNatClampNeg v53) n648_2 (upd f648_3 l648_18.toNatClampNeg (vp_nar .boolean v55)) n648_3 l648_3 l648_5 l648_6 l648_7 l648_13 l648_17 l648_18 (0 : Int32) l648_16
      else
        p_L_law_J692 xv Lc rec22 (p_L_law_L648 xv Lc rec22 n) uH uC uT uI uM uG f648_0 n648_0 f648_1 n648_1 (upd f648_2 l648_18.toNatClampNeg v53) n648_2 (upd f648_3 l648_18.toNatClampNeg (vp_nar .boolean v55)) n648_3 l648_3 l648_5 l648_6 l648_7 l648_13 l648_17 l648_18 (1 : Int32) l648_16))))
def p_L_law_L573 (xv : Nat → Int32) (Lc : Nat) (rec22 : tX1 → tX0 → tX0 → tX2 → tX3 → tX5 → Int32 → Option Unit) : Nat → tX1 → tX0 → tX0 → tX2 → tX3 → tX5 → (Nat → Int32) → Nat → (Nat → Int32) → Nat → Int32 → Int32 → Int32 → Int32 → Int32 → Option Unit
  | 0, _, _, _, _, _, _, _, _, _, _, _, _, _, _, _ => none
  | n + 1, uH, uC, uT, uI, uM, uG, f573_0, n573_0, f573_1, n573_1, l573_3, l573_5, l573_6, l573_7, l573_13 =>
    bd (p_X4_mirrors uH uC uT uI uM) (fun v38 =>
    if v38 ≤ l573_13 then
      bd (p_X4_readers uH uC uT uI uM) (fun v39 =>
      gL v39 12 (
      gL v39 12 (
      p_L_law_L648 xv Lc rec22 200 uH uC uT uI uM uG f573_0 n573_0 f573_1 n573_1 (fun _ => (0 : Int32)) v39.toNatClampNeg (fun _ => (0 : Int32)) v39.toNatClampNeg l573_3 l573_5 l573_6 l573_7 v39 (0 : Int32) (0 : Int32) (0 : Int32))))
    else
      bd (p_X4_gradesBy uH uC uT uI uM l573_13) (fun v44 =>
      bd (p_X4_kindest uH uC uT uI uM) (fun v45 =>
      bd (p_X4_gradesBy uH uC uT uI uM v45) (fun v46 =>
      if v46 < v44 then
        none
      else
        bd (p_X4_gradesBy uH uC uT uI uM l573_13) (fun v47 =>
        if v47 ≤ ((10 : Int32) * l573_6) then
          (p_L_law_L573 xv Lc rec22 n) uH uC uT uI uM uG f573_0 n573_0 f573_1 n573_1 l573_3 l573_5 l573_6 l573_7 (l573_13 + 1)
        else
          none)))))
def p_L_law_L500 (xv : Nat → Int32) (Lc : Nat) (rec22 : tX1 → tX0 → tX0 → tX2 → tX3 → tX5 → Int32 → Option Unit) (rec359 : tX1 → tX0 → tX0 → tX2 → tX3 → tX5 → (Nat → Int32) → Nat → (Nat → Int32) → Nat → Int32 → Int32 → Int32 → Int32 → Int32 → Option Unit) : Nat → tX1 → tX0 → tX0 → tX2 → tX3 → tX5 → (Nat → Int32) → Nat → (Nat → Int32) → Nat → Int32 → Int32 → Int32 → Int32 → Int32 → Int32 → Option Unit
  | 0, _, _, _, _, _, _, _, _, _, _, _, _, _, _, _, _ => none
  | n + 1, uH, uC, uT, uI, uM, uG, f500_0, n500_0, f500_1, n500_1, l500_3, l500_5, l500_6, l500_7, l500_13, l500_16 =>
    bd (p_X4_mirrors uH uC uT uI uM) (fun v62 =>
    if v62 ≤ l500_16 then
      rec359 uH uC uT uI uM uG f500_0 n500_0 f500_1 n500_1 l500_3 l500_5 l500_6 l500_7 (l500_13 + 1)
    else
      bd (p_X4_grade uH uC uT uI uM l500_16 l500_13) (fun v63 =>
      if v63 < 0 then
        none
      else
        bd (p_X4_grade uH uC uT uI uM l500_16 l500_13) (fun v64 =>
        if (10 : Int32) < v64 then
          none
        else
          bd (p_X4_grade uH uC uT uI uM l500_16 l500_13) (fun v65 =>
          bd (p_X4_favouriteOf uH uC uT uI uM l500_16) (fun v66 =>
          bd (p_X4_grade uH uC uT uI uM l500_16 v66) (fun v67 =>
          if v65 ≤ v67 then
            (p_L_law_L500 xv Lc rec22 rec359 n) uH uC uT uI uM uG f500_0 n500_0 f500_1 n500_1 l500_3 l500_5 l500_6 l500_7 l500_13 (l500_16 + 1)
          else
            none))))))
def p_L_law_L456 (xv : Nat → Int32) (Lc : Nat) (rec22 : tX1 → tX0 → tX0 → tX2 → tX3 → tX5 → Int32 → Option Unit) (rec359 : tX1 → tX0 → tX0 → tX2 → tX3 → tX5 → (Nat → Int32) → Nat → (Nat → Int32) → Nat → Int32 → Int32 → Int32 → Int32 → Int32 → Option Unit) : Nat → tX1 → tX0 → tX0 → tX2 → tX3 → tX5 → (Nat → Int32) → Nat → (Nat → Int32) → Nat → Int32 → Int32 → Int32 → Int32 → Int32 → Int32 → Int32 → Option Unit
  | 0, _, _, _, _, _, _, _, _, _, _, _, _, _, _, _, _, _ => none
  | n + 1, uH, uC, uT, uI, uM, uG, f456_0, n456_0, f456_1, n456_1, l456_3, l456_5, l456_6, l456_7, l456_13, l456_14, l456_16 =>
    if l456_13 ≤ l456_16 then
      p_L_law_L500 xv Lc rec22 rec359 200 uH uC uT uI uM uG f456_0 n456_0 f456_1 n456_1 l456_3 l456_5 l456_6 l456_7 l456_13 (0 : Int32)
    else
      bd (p_X4_floorIn uH uC uT uI uM l456_16) (fun v57 =>
      if v57 = l456_14 then
        bd (p_X4_paragraphIn uH uC uT uI uM l456_16) (fun v58 =>
        bd (p_X4_paragraphIn uH uC uT uI uM l456_13) (fun v59 =>
        if v58 < v59 then
          (p_L_law_L456 xv Lc rec22 rec359 n) uH uC uT uI uM uG f456_0 n456_0 f456_1 n456_1 l456_3 l456_5 l456_6 l456_7 l456_13 l456_14 (l456_16 + 1)
        else
          none))
      else
        (p_L_law_L456 xv Lc rec22 rec359 n) uH uC uT uI uM uG f456_0 n456_0 f456_1 n456_1 l456_3 l456_5 l456_6 l456_7 l456_13 l456_14 (l456_16 + 1))
def p_L_law_J434 (xv : Nat → Int32) (Lc : Nat) (rec22 : tX1 → tX0 → tX0 → tX2 → tX3 → tX5 → Int32 → Option Unit) (rec359 : tX1 → tX0 → tX0 → tX2 → tX3 → tX5 → (Nat → Int32) → Nat → (Nat → Int32) → Nat → Int32 → Int32 → Int32 → Int32 → Int32 → Option Unit) (uH : tX1) (uC : tX0) (uT : tX0) (uI : tX2) (uM : tX3) (uG : tX5) (f434_0 : (Nat → Int32)) (n434_0 : Nat) (f434_1 : (Nat → Int32)) (n434_1 : Nat) (l434_3 : Int32) (l434_5 : Int32) (l434_6 : Int32) (l434_7 : Int32) (l434_13 : Int32) (l434_14 : Int32) : Option Unit :=
  bd (p_X4_thrillIn uH uC uT uI uM l434_13) (fun v48 =>
  bd (p_X4_mostThrilling uH uC uT uI uM) (fun v49 =>
  bd (p_X4_thrillIn uH uC uT uI uM v49) (fun v50 =>
  if v48 ≤ v50 then
    p_L_law_L456 xv Lc rec22 rec359 200 uH uC uT uI uM uG f434_0 n434_0 f434_1 n434_1 l434_3 l434_5 l434_6 l434_7 l434_13 l434_14 (0 : Int32)
  else
    none)))
def p_L_law_L359 (xv : Nat → Int32) (Lc : Nat) (rec22 : tX1 → tX0 → tX0 → tX2 → tX3 → tX5 → Int32 → Option Unit) : Nat → tX1 → tX0 → tX0 → tX2 → tX3 → tX5 → (Nat → Int32) → Nat → (Nat → Int32) → Nat → Int32 → Int32 → Int32 → Int32 → Int32 → Option Unit
  | 0, _, _, _, _, _, _, _, _, _, _, _, _, _, _, _ => none
  | n + 1, uH, uC, uT, uI, uM, uG, f359_0, n359_0, f359_1, n359_1, l359_3, l359_5, l359_6, l359_7, l359_13 =>
    if l359_6 ≤ l359_13 then
      p_L_law_L573 xv Lc rec22 200 uH uC uT uI uM uG f359_0 n359_0 f359_1 n359_1 l359_3 l359_5 l359_6 l359_7 (0 : Int32)
    else
      bd (p_X4_floorIn uH uC uT uI uM l359_13) (fun v27 =>
      bd (p_X4_paragraphIn uH uC uT uI uM l359_13) (fun v28 =>
      bd (p_X4_thrillOf uH uC uT uI uM v27 v28) (fun v29 =>
      bd (p_X4_thrillIn uH uC uT uI uM l359_13) (fun v30 =>
      if v30 < v29 then
        none
      else
        bd (p_X4_hourIn uH uC uT uI uM l359_13) (fun v31 =>
        bd (p_X4_hours uH uC uT uI uM) (fun v32 =>
        if v32 ≤ v31 then
          none
        else
          if l359_13 ≤ 0 then
            p_L_law_J434 xv Lc rec22 (p_L_law_L359 xv Lc rec22 n) uH uC uT uI uM uG f359_0 n359_0 f359_1 n359_1 l359_3 l359_5 l359_6 l359_7 l359_13 v27
          else
            bd (p_X4_hourIn uH uC uT uI uM l359_13) (fun v33 =>
            bd (p_X4_hourIn uH uC uT uI uM (l359_13 - (1 : Int32))) (fun v34 =>
            if v33 ≤ v34 then
              none
            else
              p_L_law_J434 xv Lc rec22 (p_L_law_L359 xv Lc rec22 n) uH uC uT uI uM uG f359_0 n359_0 f359_1 n359_1 l359_3 l359_5 l359_6 l359_7 l359_13 v27))))))))
def p_L_law_L253 (xv : Nat → Int32) (Lc : Nat) (rec22 : tX1 → tX0 → tX0 → tX2 → tX3 → tX5 → Int32 → Option Unit) : Nat → tX1 → tX0 → tX0 → tX2 → tX3 → tX5 → (Nat → Int32) → Nat → (Nat → Int32) → Nat → Int32 → Int32 → Int32 → Int32 → Int32 → Int32 → Int32 → Int32 → Option Unit
  | 0, _, _, _, _, _, _, _, _, _, _, _, _, _, _, _, _, _, _ => none
  | n + 1, uH, uC, uT, uI, uM, uG, f253_0, n253_0, f253_1, n253_1, l253_3, l253_5, l253_6, l253_7, l253_8, l253_9, l253_12, l253_13 =>
    if (8 : Int32) ≤ l253_13 then
      bd (p_X4_calls uH uC uT uI uM) (fun v17 =>
      if l253_7 = v17 then
        bd (p_X4_cuts uH uC uT uI uM) (fun v18 =>
        if l253_9 = (l253_6 + v18) then
          if l253_12 = (l253_8 - l253_9) then
            bd (p_X4_liftAt uH uC uT uI uM) (fun v19 =>
            if v19 < 0 then
              none
            else
              bd (p_X4_liftAt uH uC uT uI uM) (fun v20 =>
              if l253_5 ≤ v20 then
                none
              else
                bd (p_X4_goes uH uC uT uI uM) (fun v21 =>
                if v21 < (-1 : Int32) then
                  none
                else
                  bd (p_X4_goes uH uC uT uI uM) (fun v22 =>
                  if (1 : Int32) < v22 then
                    none
                  else
                    bd (p_X4_wear uH uC uT uI uM) (fun v23 =>
                    if v23 < 0 then
                      none
                    else
                      bd (p_X4_suspense uH uC uT uI uM) (fun v24 =>
                      if 0 ≤ v24 then
                        p_L_law_L359 xv Lc rec22 200 uH uC uT uI uM uG f253_0 n253_0 f253_1 n253_1 l253_3 l253_5 l253_6 l253_7 (0 : Int32)
                      else
                        none))))))
          else
            none
        else
          none)
      else
        none)
    else
      bd (p_X4_toCome uH uC uT uI uM l253_13) (fun v25 =>
      (p_L_law_L253 xv Lc rec22 n) uH uC uT uI uM uG f253_0 n253_0 f253_1 n253_1 l253_3 l253_5 l253_6 l253_7 l253_8 l253_9 (l253_12 + v25) (l253_13 + 1))
def p_L_law_J236 (xv : Nat → Int32) (Lc : Nat) (rec22 : tX1 → tX0 → tX0 → tX2 → tX3 → tX5 → Int32 → Option Unit) (rec99 : tX1 → tX0 → tX0 → tX2 → tX3 → tX5 → (Nat → Int32) → Nat → (Nat → Int32) → Nat → Int32 → Int32 → Int32 → Int32 → Int32 → Int32 → Int32 → Option Unit) (uH : tX1) (uC : tX0) (uT : tX0) (uI : tX2) (uM : tX3) (uG : tX5) (f236_0 : (Nat → Int32)) (n236_0 : Nat) (f236_1 : (Nat → Int32)) (n236_1 : Nat) (l236_3 : Int32) (l236_5 : Int32) (l236_6 : Int32) (l236_7 : Int32) (l236_8 : Int32) (l236_9 : Int32) (l236_12 : Int32) (s236_0 : Int32) (s236_1 : Int32) : Option Unit :=
  if s236_1 ≤ s236_0 then
    rec99 uH uC uT uI uM uG f236_0 n236_0 f236_1 n236_1 l236_3 l236_5 l236_6 l236_7 l236_8 l236_9 (l236_12 + 1)
  else
    none
def p_L_law_J181 (xv : Nat → Int32) (Lc : Nat) (rec22 : tX1 → tX0 → tX0 → tX2 → tX3 → tX5 → Int32 → Option Unit) (rec99 : tX1 → tX0 → tX0 → tX2 → tX3 → tX5 → (Nat → Int32) → Nat → (Nat → Int32) → Nat → Int32 → Int32 → Int32 → Int32 → Int32 → Int32 → Int32 → Option Unit) (uH : tX1) (uC : tX0) (uT : tX0) (uI : tX2) (uM : tX3) (uG : tX5) (f181_0 : (Nat → Int32)) (n181_0 : Nat) (f181_1 : (Nat → Int32)) (n181_1 : Nat) (l181_3 : Int32) (l181_5 : Int32) (l181_6 : Int32) (l181_7 : Int32) (l181_8 : Int32) (l181_12 : Int32) (l181_13 : Int32) (s181_0 : Int32) (s181_1 : Int32) : Option Unit :=
  gd l181_12 n181_0 (
  if (f181_0 l181_12.toNatClampNeg) < (-1 : Int32) then
    none
  else
    if l181_13 ≤ (f181_0 l181_12.toNatClampNeg) then
      none
    else
      bd (p_X4_cutOn uH uC uT uI uM l181_12) (fun v36 =>
      if v36 < 0 then
        none
      else
        bd (p_X4_cutOn uH uC uT uI uM l181_12) (fun v37 =>
        if 0 ≤ (f181_0 l181_12.toNatClampNeg) then
          p_L_law_J236 xv Lc rec22 rec99 uH uC uT uI uM uG f181_0 n181_0 f181_1 n181_1 l181_3 l181_5 l181_6 l181_7 l181_8 (s181_1 + s181_0) l181_12 (f181_0 l181_12.toNatClampNeg) v37
        else
          p_L_law_J236 xv Lc rec22 rec99 uH uC uT uI uM uG f181_0 n181_0 f181_1 n181_1 l181_3 l181_5 l181_6 l181_7 l181_8 (s181_1 + s181_0) l181_12 l181_13 v37)))
def p_L_law_J151 (xv : Nat → Int32) (Lc : Nat) (rec22 : tX1 → tX0 → tX0 → tX2 → tX3 → tX5 → Int32 → Option Unit) (rec99 : tX1 → tX0 → tX0 → tX2 → tX3 → tX5 → (Nat → Int32) → Nat → (Nat → Int32) → Nat → Int32 → Int32 → Int32 → Int32 → Int32 → Int32 → Int32 → Option Unit) (uH : tX1) (uC : tX0) (uT : tX0) (uI : tX2) (uM : tX3) (uG : tX5) (f151_0 : (Nat → Int32)) (n151_0 : Nat) (f151_1 : (Nat → Int32)) (n151_1 : Nat) (l151_3 : Int32) (l151_5 : Int32) (l151_6 : Int32) (l151_8 : Int32) (l151_9 : Int32) (l151_12 : Int32) (l151_13 : Int32) (s151_0 : Int32) (s151_1 : Int32) : Option Unit :=
  gd l151_12 n151_0 (
  if 0 ≤ (f151_0 l151_12.toNatClampNeg) then
    p_L_law_J181 xv Lc rec22 rec99 uH uC uT uI uM uG f151_0 n151_0 f151_1 n151_1 l151_3 l151_5 l151_6 (s151_1 + s151_0) (l151_8 + l151_13) l151_12 l151_13 (f151_0 l151_12.toNatClampNeg) l151_9
  else
    p_L_law_J181 xv Lc rec22 rec99 uH uC uT uI uM uG f151_0 n151_0 f151_1 n151_1 l151_3 l151_5 l151_6 (s151_1 + s151_0) (l151_8 + l151_13) l151_12 l151_13 l151_13 l151_9)
def p_L_law_L99 (xv : Nat → Int32) (Lc : Nat) (rec22 : tX1 → tX0 → tX0 → tX2 → tX3 → tX5 → Int32 → Option Unit) : Nat → tX1 → tX0 → tX0 → tX2 → tX3 → tX5 → (Nat → Int32) → Nat → (Nat → Int32) → Nat → Int32 → Int32 → Int32 → Int32 → Int32 → Int32 → Int32 → Option Unit
  | 0, _, _, _, _, _, _, _, _, _, _, _, _, _, _, _, _, _ => none
  | n + 1, uH, uC, uT, uI, uM, uG, f99_0, n99_0, f99_1, n99_1, l99_3, l99_5, l99_6, l99_7, l99_8, l99_9, l99_12 =>
    if l99_5 ≤ l99_12 then
      p_L_law_L253 xv Lc rec22 200 uH uC uT uI uM uG f99_0 n99_0 f99_1 n99_1 l99_3 l99_5 l99_6 l99_7 l99_8 l99_9 (0 : Int32) (0 : Int32)
    else
      bd (p_X4_paragraphs uH uC uT uI uM l99_12) (fun v12 =>
      bd (p_X4_nextParagraph uH uC uT uI uM l99_12) (fun v13 =>
      gd l99_12 n99_0 (
      bd (p_X4_isCalled uH uC uT uI uM l99_12) (fun v15 =>
      gd l99_12 n99_1 (
      if ((upd f99_1 l99_12.toNatClampNeg (vp_nar .boolean v15)) l99_12.toNatClampNeg) = 0 then
        p_L_law_J151 xv Lc rec22 (p_L_law_L99 xv Lc rec22 n) uH uC uT uI uM uG (upd f99_0 l99_12.toNatClampNeg v13) n99_0 (upd f99_1 l99_12.toNatClampNeg (vp_nar .boolean v15)) n99_1 l99_3 l99_5 l99_6 l99_8 l99_9 l99_12 v12 (0 : Int32) l99_7
      else
        p_L_law_J151 xv Lc rec22 (p_L_law_L99 xv Lc rec22 n) uH uC uT uI uM uG (upd f99_0 l99_12.toNatClampNeg v13) n99_0 (upd f99_1 l99_12.toNatClampNeg (vp_nar .boolean v15)) n99_1 l99_3 l99_5 l99_6 l99_8 l99_9 l99_12 v12 (1 : Int32) l99_7)))))
def p_L_law_L22 (xv : Nat → Int32) (Lc : Nat)  : Nat → tX1 → tX0 → tX0 → tX2 → tX3 → tX5 → Int32 → Option Unit
  | 0, _, _, _, _, _, _, _ => none
  | n + 1, uH, uC, uT, uI, uM, uG, l22_3 =>
    if (30 : Int32) ≤ l22_3 then
      bd (p_X5_isSame uH uC uT uI uM uG) (fun v1 =>
      gq (v1 = 1) (
      some ()))
    else
      bd (p_L_cell xv Lc (l22_3 - l22_3 / (16 : Int32) * (16 : Int32))) (fun v3 =>
      bd (p_L_act uH uC uT uI uM uG ((v3 >>> (((l22_3 / (16 : Int32)) * (3 : Int32)) &&& 31)) + ((743 : Int32) * l22_3))) (fun v4 =>
      if v4.1 = 0 then
        none
      else
        bd (p_X4_floors v4.2.1 v4.2.2.1 uT v4.2.2.2.1 v4.2.2.2.2.1) (fun v6 =>
        bd (p_X4_instalments v4.2.1 v4.2.2.1 uT v4.2.2.2.1 v4.2.2.2.2.1) (fun v7 =>
        gL v6 12 (
        gL v6 12 (
        p_L_law_L99 xv Lc (p_L_law_L22 xv Lc n) 200 v4.2.1 v4.2.2.1 uT v4.2.2.2.1 v4.2.2.2.2.1 v4.2.2.2.2.2 (fun _ => (0 : Int32)) v6.toNatClampNeg (fun _ => (0 : Int32)) v6.toNatClampNeg l22_3 v6 v7 (0 : Int32) (0 : Int32) (0 : Int32) (0 : Int32)))))))
def p_L_law (xv : Nat → Int32) (Lc : Nat) (uH : tX1) (uC : tX0) (uT : tX0) (uI : tX2) (uM : tX3) (uG : tX5) : Option Unit :=
  p_L_law_L22 xv Lc 31 uH uC uT uI uM uG (0 : Int32)
set_option maxHeartbeats 16000000 in
set_option maxRecDepth 100000 in
theorem c_L_law {p : Program} {e : Env} {s : State} {m : MethodId} {below : List Frame} {meth : Method} {c : Code} (l : Launch) (dC : Nat → ClassId) (dI : Nat → Nat → Nat) (cI cZ cJ : ClassId) (n0 h0 h3 h4 h5 h6 c0 c8 c9 c10 c11 c12 c13 t0 t8 t9 t10 t11 t12 t13 i0 i1 i2 i3 i4 m0 m1 m2 g0 : Nat) (g7 g8 g9 g10 g11 g12 : Nat) (G9 G10 G11 G12 : Nat → Nat) {b Lc : Nat} {xv : Nat → Int32} {A : Nat → Prop} (S : CallFix p m c cL_law 27 s #[Value.ref b] lw_all RL) (hK : va_K (dC, dI) vwCl (TYG cI cZ cJ) s) (hO : va_AOA .int s) (hA : ∀ q : Nat, s.heap.size ≤ q → A q) (hA2 : ∀ q : Nat, A q → s.heap.size ≤ q) (hbA : ¬ A b) (hXs : va_X b Lc xv s s.heap) (hbl : b < s.heap.size) (hr : meth.sig.returnType = ret) (hlk : meth.locks = false) (uH : tX1) (uC : tX0) (uT : tX0) (uI : tX2) (uM : tX3) (uG : tX5) {z : Unit} (hok : p_L_law xv Lc uH uC uT uI uM uG = some z) (kc sc : Nat) (hkc : kc + 128 * 31 + 1 ≤ 600130) (hsc : sc + 8418 * 31 + 8 ≤ 7301080) (H : Heap) (locs : List Loc) (hP : va_P (dC, dI) vwCl ((wN cI cZ n0 h0 h3 h4 h5 h6 c0 c8 c9 c10 c11 c12 c13 t0 t8 t9 t10 t11 t12 t13 i0 i1 i2 i3 i4 m0 m1 m2 uH uC uT uI uM) ++ (wX5 cI cZ cJ g0 g7 g8 g9 g10 g11 g12 G9 G10 G11 G12 uG ++ ([] : va_W))) H) (hD : va_D A ((wN cI cZ n0 h0 h3 h4 h5 h6 c0 c8 c9 c10 c11 c12 c13 t0 t8 t9 t10 t11 t12 t13 i0 i1 i2 i3 i4 m0 m1 m2 uH uC uT uI uM) ++ (wX5 cI cZ cJ g0 g7 g8 g9 g10 g11 g12 G9 G10 G11 G12 uG ++ ([] : va_W)))) (hS : va_S A s.heap H locs) (ls : Array Slot) (hl : lv_has ls 27 [(0, .ref b), (1, .ref n0), (2, .ref g0)]) : W p l e room_1 s m #[Value.ref b] below meth c H locs kc sc (lw_Z below #[Value.ref b] s) (F0 m 20 ls []) := by
  have hx := S.1
  have hb := S.2.1
  have hml := S.2.2.1
  have hown : s.vm.findClass RL = some m.cls := S.2.2.2.1
  have hts := S.2.2.2.2
  have hK2 : va_K (dC, dI) vwCl (TYS cI cZ) s := hK.sub [0, 1] rfl
  have L22 : ∀ n22 : Nat, ∀ (g7 : Nat) (g8 : Nat) (g9 : Nat) (g10 : Nat) (g11 : Nat) (g12 : Nat) (G9 : (Nat → Nat)) (G10 : (Nat → Nat)) (G11 : (Nat → Nat)) (G12 : (Nat → Nat)) (uH : tX1) (uC : tX0) (uT : tX0) (uI : tX2) (uM : tX3) (uG : tX5) (l22_3 : Int32) (kc sc : Nat) (hkc : kc + 128 * n22 + 1 ≤ 600130) (hsc : sc + 8418 * n22 + 8 ≤ 7301080) (H : Heap) (locs : List Loc) (hP : va_P (dC, dI) vwCl ((wN cI cZ n0 h0 h3 h4 h5 h6 c0 c8 c9 c10 c11 c12 c13 t0 t8 t9 t10 t11 t12 t13 i0 i1 i2 i3 i4 m0 m1 m2 uH uC uT uI uM) ++ (wX5 cI cZ cJ g0 g7 g8 g9 g10 g11 g12 G9 G10 G11 G12 uG ++ ([] : va_W))) H) (hD : va_D A ((wN cI cZ n0 h0 h3 h4 h5 h6 c0 c8 c9 c10 c11 c12 c13 t0 t8 t9 t10 t11 t12 t13 i0 i1 i2 i3 i4 m0 m1 m2 uH uC uT uI uM) ++ (wX5 cI cZ cJ g0 g7 g8 g9 g10 g11 g12 G9 G10 G11 G12 uG ++ ([] : va_W)))) (hS : va_S A s.heap H locs) (ls : Array Slot) (hl : lv_has ls 27 [(0, .ref b), (1, .ref n0), (2, .ref g0), (3, .int l22_3)]) (hok : p_L_law_L22 xv Lc n22 uH uC uT uI uM uG l22_3 = some z), W p l e room_1 s m #[Value.ref b] below meth c H locs kc sc (lw_Z below #[Value.ref b] s) (F0 m 22 ls []) := by
    intro n22
    induction n22 with
    | zero =>
      intro g7 g8 g9 g10 g11 g12 G9 G10 G11 G12 uH uC uT uI uM uG l22_3 kc sc hkc hsc H locs hP hD hS ls hl hok
      rw [p_L_law_L22] at hok
      cases hok
    | succ n22 ih22 =>
      have L1262 : ∀ n1262 : Nat, ∀ (g7 : Nat) (g8 : Nat) (g9 : Nat) (g10 : Nat) (g11 : Nat) (g12 : Nat) (G9 : (Nat → Nat)) (G10 : (Nat → Nat)) (G11 : (Nat → Nat)) (G12 : (Nat → Nat)) (uH : tX1) (uC : tX0) (uT : tX0) (uI : tX2) (uM : tX3) (uG : tX5) (q1262_0 : Nat) (f1262_0 : (Nat → Int32)) (n1262_0 : Nat) (q1262_1 : Nat) (f1262_1 : (Nat → Int32)) (n1262_1 : Nat) (l1262_3 : Int32) (l1262_13 : Int32) (l1262_22 : Int32) (l1262_26 : Int32) (kc sc : Nat) (hkc : kc + 0 + 128 * n22 + 1 ≤ 600130) (hsc : sc + 0 + 8418 * n22 + 8 ≤ 7301080) (H : Heap) (locs : List Loc) (hP : va_P (dC, dI) vwCl ((wN cI cZ n0 h0 h3 h4 h5 h6 c0 c8 c9 c10 c11 c12 c13 t0 t8 t9 t10 t11 t12 t13 i0 i1 i2 i3 i4 m0 m1 m2 uH uC uT uI uM) ++ (wX5 cI cZ cJ g0 g7 g8 g9 g10 g11 g12 G9 G10 G11 G12 uG ++ [(q1262_0, .inl (cI, n1262_0, .inl f1262_0)), (q1262_1, .inl (cZ, n1262_1, .inl f1262_1))])) H) (hD : va_D A ((wN cI cZ n0 h0 h3 h4 h5 h6 c0 c8 c9 c10 c11 c12 c13 t0 t8 t9 t10 t11 t12 t13 i0 i1 i2 i3 i4 m0 m1 m2 uH uC uT uI uM) ++ (wX5 cI cZ cJ g0 g7 g8 g9 g10 g11 g12 G9 G10 G11 G12 uG ++ [(q1262_0, .inl (cI, n1262_0, .inl f1262_0)), (q1262_1, .inl (cZ, n1262_1, .inl f1262_1))]))) (hS : va_S A s.heap H locs) (ls : Array Slot) (hl : lv_has ls 27 [(0, .ref b), (1, .ref n0), (2, .ref g0), (3, .int l1262_3), (13, .int l1262_13), (14, .ref q1262_0), (15, .ref q1262_1), (22, .int l1262_22), (26, .int l1262_26)]) (hok : p_L_law_L1262 xv Lc (p_L_law_L22 xv Lc n22) n1262 uH uC uT uI uM uG f1262_0 n1262_0 f1262_1 n1262_1 l1262_3 l1262_13 l1262_22 l1262_26 = some z), W p l e room_1 s m #[Value.ref b] below meth c H locs kc sc (lw_Z below #[Value.ref b] s) (F0 m 1262 ls []) := by
        intro n1262
        induction n1262 with
        | zero =>
          intro g7 g8 g9 g10 g11 g12 G9 G10 G11 G12 uH uC uT uI uM uG q1262_0 f1262_0 n1262_0 q1262_1 f1262_1 n1262_1 l1262_3 l1262_13 l1262_22 l1262_26 kc sc hkc hsc H locs hP hD hS ls hl hok
          rw [p_L_law_L1262] at hok
          cases hok
        | succ n1262 ih1262 =>
          have J1316 : ∀ (g7 : Nat) (g8 : Nat) (g9 : Nat) (g10 : Nat) (g11 : Nat) (g12 : Nat) (G9 : (Nat → Nat)) (G10 : (Nat → Nat)) (G11 : (Nat → Nat)) (G12 : (Nat → Nat)) (uH : tX1) (uC : tX0) (uT : tX0) (uI : tX2) (uM : tX3) (uG : tX5) (q1316_0 : Nat) (f1316_0 : (Nat → Int32)) (n1316_0 : Nat) (q1316_1 : Nat) (f1316_1 : (Nat → Int32)) (n1316_1 : Nat) (l1316_3 : Int32) (l1316_13 : Int32) (l1316_22 : Int32) (l1316_26 : Int32) (kc sc : Nat) (hkc : kc + 0 + 128 * n22 + 1 ≤ 600130) (hsc : sc + 0 + 8418 * n22 + 8 ≤ 7301080) (H : Heap) (locs : List Loc) (hP : va_P (dC, dI) vwCl ((wN cI cZ n0 h0 h3 h4 h5 h6 c0 c8 c9 c10 c11 c12 c13 t0 t8 t9 t10 t11 t12 t13 i0 i1 i2 i3 i4 m0 m1 m2 uH uC uT uI uM) ++ (wX5 cI cZ cJ g0 g7 g8 g9 g10 g11 g12 G9 G10 G11 G12 uG ++ [(q1316_0, .inl (cI, n1316_0, .inl f1316_0)), (q1316_1, .inl (cZ, n1316_1, .inl f1316_1))])) H) (hD : va_D A ((wN cI cZ n0 h0 h3 h4 h5 h6 c0 c8 c9 c10 c11 c12 c13 t0 t8 t9 t10 t11 t12 t13 i0 i1 i2 i3 i4 m0 m1 m2 uH uC uT uI uM) ++ (wX5 cI cZ cJ g0 g7 g8 g9 g10 g11 g12 G9 G10 G11 G12 uG ++ [(q1316_0, .inl (cI, n1316_0, .inl f1316_0)), (q1316_1, .inl (cZ, n1316_1, .inl f1316_1))]))) (hS : va_S A s.heap H locs) (ls : Array Slot) (hl : lv_has ls 27 [(0, .ref b), (1, .ref n0), (2, .ref g0), (3, .int l1316_3), (13, .int l1316_13), (14, .ref q1316_0), (15, .ref q1316_1), (22, .int l1316_22), (26, .int l1316_26)]) (hok : p_L_law_J1316 xv Lc (p_L_law_L22 xv Lc n22) (p_L_law_L1262 xv Lc (p_L_law_L22 xv Lc n22) n1262) uH uC uT uI uM uG f1316_0 n1316_0 f1316_1 n1316_1 l1316_3 l1316_13 l1316_22 l1316_26 = some z), W p l e room_1 s m #[Value.ref b] below meth c H locs kc sc (lw_Z below #[Value.ref b] s) (F0 m 1316 ls []) := by
            intro g7 g8 g9 g10 g11 g12 G9 G10 G11 G12 uH uC uT uI uM uG q1316_0 f1316_0 n1316_0 q1316_1 f1316_1 n1316_1 l1316_3 l1316_13 l1316_22 l1316_26 kc sc hkc hsc H locs hP hD hS ls hl hok
            unfold p_L_law_J1316 at hok
            refine lv_aload hx hb dL_law_1316 (lv_at hl 6 rfl) ?_
            refine lv_iload hx hb dL_law_1318 (lv_at hl 8 rfl) ?_
            obtain ⟨hi115, hok⟩ := gd_some hok
            refine xlz hx hb hK hP 1 1 rfl rfl (j := l1316_26.toNatClampNeg) rfl hi115 dL_law_1320 ?_
            refine lv_if_eq (tgt := 1373) hx hb dL_law_1321 (by decide) (fun hc => ?_) (fun hc => ?_)
            · have hok := ip hok hc
              refine lv_iinc (v := (l1316_26 + 1)) (lv' := [(26, .int (l1316_26 + 1)), (0, .ref b), (1, .ref n0), (2, .ref g0), (3, .int l1316_3), (13, .int l1316_13), (14, .ref q1316_0), (15, .ref q1316_1), (22, .int l1316_22)]) hx hb dL_law_1373 hl (k := 8) rfl rfl (by decide) rfl (fun ls hl => ?_)
              refine lv_goto (tgt := 1262) hx hb dL_law_1376 (by decide) ?_
              exact ih1262 g7 g8 g9 g10 g11 g12 G9 G10 G11 G12 uH uC uT uI uM uG q1316_0 f1316_0 n1316_0 q1316_1 f1316_1 n1316_1 l1316_3 l1316_13 l1316_22 (l1316_26 + 1) kc sc (by omega) (by omega) _ _ hP hD hS _ (lv_sub hl [1, 2, 3, 4, 5, 6, 7, 8, 0] rfl) hok
            · have hok := iq hok hc
              refine lv_aload_n hx hb dL_law_1324 rfl (lv_at hl 1 rfl) ?_
              refine lv_iload hx hb dL_law_1325 (lv_at hl 8 rfl) ?_
              obtain ⟨v116, hc116, hok⟩ := bd_some hok
              refine cRVi (ci := 4) (q0 := 0) [.int l1316_26] S hK2 (va_Pmid (wa := []) hP) (c_X4_isSubscriber l dC dI cI cZ n0 h0 h3 h4 h5 h6 c0 c8 c9 c10 c11 c12 c13 t0 t8 t9 t10 t11 t12 t13 i0 i1 i2 i3 i4 m0 m1 m2 uH uC uT uI uM l1316_26 hc116) (lw_V qm_L_185 qi_X4_isSubscriber qs_X4_isSubscriber qn_X4 qc_X4_isSubscriber) hd_X4_isSubscriber ⟨rfl, rfl⟩ ⟨Nat.le_of_ble_eq_true rfl, Nat.le_of_ble_eq_true rfl⟩ ⟨by show kc ≤ 600130; omega, by show sc ≤ 7301080; omega⟩ rfl rfl rfl hl.1 (Nat.le_of_ble_eq_true rfl) rfl dL_law_1327 ?_
              refine lv_if_eq (tgt := 1373) hx hb dL_law_1330 (by decide) (fun hc => ?_) (fun hc => ?_)
              · have hok := ip hok hc
                refine lv_iinc (v := (l1316_26 + 1)) (lv' := [(26, .int (l1316_26 + 1)), (0, .ref b), (1, .ref n0), (2, .ref g0), (3, .int l1316_3), (13, .int l1316_13), (14, .ref q1316_0), (15, .ref q1316_1), (22, .int l1316_22)]) hx hb dL_law_1373 hl (k := 8) rfl rfl (by decide) rfl (fun ls hl => ?_)
                refine lv_goto (tgt := 1262) hx hb dL_law_1376 (by decide) ?_
                exact ih1262 g7 g8 g9 g10 g11 g12 G9 G10 G11 G12 uH uC uT uI uM uG q1316_0 f1316_0 n1316_0 q1316_1 f1316_1 n1316_1 l1316_3 l1316_13 l1316_22 (l1316_26 + 1) kc sc (by omega) (by omega) _ _ hP hD hS _ (lv_sub hl [1, 2, 3, 4, 5, 6, 7, 8, 0] rfl) hok
              · have hok := iq hok hc
                refine lv_iload hx hb dL_law_1333 (lv_at hl 7 rfl) ?_
                refine lv_if_le (tgt := 1355) hx hb dL_law_1335 (by decide) (fun hc => ?_) (fun hc => ?_)
                · have hok := ip hok hc
                  refine lv_aload_n hx hb dL_law_1355 rfl (lv_at hl 1 rfl) ?_
                  refine lv_iload hx hb dL_law_1356 (lv_at hl 8 rfl) ?_
                  obtain ⟨v117, hc117, hok⟩ := bd_some hok
                  refine cRVi (ci := 4) (q0 := 0) [.int l1316_26] S hK2 (va_Pmid (wa := []) hP) (c_X4_warmthOf l dC dI cI cZ n0 h0 h3 h4 h5 h6 c0 c8 c9 c10 c11 c12 c13 t0 t8 t9 t10 t11 t12 t13 i0 i1 i2 i3 i4 m0 m1 m2 uH uC uT uI uM l1316_26 hc117) (lw_V qm_L_182 qi_X4_warmthOf qs_X4_warmthOf qn_X4 qc_X4_warmthOf) hd_X4_warmthOf ⟨rfl, rfl⟩ ⟨Nat.le_of_ble_eq_true rfl, Nat.le_of_ble_eq_true rfl⟩ ⟨by show kc ≤ 600130; omega, by show sc ≤ 7301080; omega⟩ rfl rfl rfl hl.1 (Nat.le_of_ble_eq_true rfl) rfl dL_law_1358 ?_
                  refine lv_aload hx hb dL_law_1361 (lv_at hl 5 rfl) ?_
                  refine lv_iload hx hb dL_law_1363 (lv_at hl 8 rfl) ?_
                  obtain ⟨hi118, hok⟩ := gd_some hok
                  refine xl hx hb hK hP 0 0 rfl rfl (j := l1316_26.toNatClampNeg) rfl hi118 dL_law_1365 ?_
                  refine lv_iconst (v := (1 : Int32)) hx hb dL_law_1366 (by decide) ?_
                  refine lv_isub hx hb dL_law_1367 ?_
                  refine lv_icmp_eq (tgt := 1373) hx hb dL_law_1368 (by decide) (fun hc => ?_) (fun hc => ?_)
                  · have hok := ip hok hc
                    refine lv_iinc (v := (l1316_26 + 1)) (lv' := [(26, .int (l1316_26 + 1)), (0, .ref b), (1, .ref n0), (2, .ref g0), (3, .int l1316_3), (13, .int l1316_13), (14, .ref q1316_0), (15, .ref q1316_1), (22, .int l1316_22)]) hx hb dL_law_1373 hl (k := 8) rfl rfl (by decide) rfl (fun ls hl => ?_)
                    refine lv_goto (tgt := 1262) hx hb dL_law_1376 (by decide) ?_
                    exact ih1262 g7 g8 g9 g10 g11 g12 G9 G10 G11 G12 uH uC uT uI uM uG q1316_0 f1316_0 n1316_0 q1316_1 f1316_1 n1316_1 l1316_3 l1316_13 l1316_22 (l1316_26 + 1) kc sc (by omega) (by omega) _ _ hP hD hS _ (lv_sub hl [1, 2, 3, 4, 5, 6, 7, 8, 0] rfl) hok
                  · have hok := iq hok hc
                    refine lv_iconst (v := (0 : Int32)) hx hb dL_law_1371 (by decide) ?_
                    cases hok
                · have hok := iq hok hc
                  refine lv_aload_n hx hb dL_law_1338 rfl (lv_at hl 1 rfl) ?_
                  refine lv_iload hx hb dL_law_1339 (lv_at hl 8 rfl) ?_
                  obtain ⟨v119, hc119, hok⟩ := bd_some hok
                  refine cRVi (ci := 4) (q0 := 0) [.int l1316_26] S hK2 (va_Pmid (wa := []) hP) (c_X4_warmthOf l dC dI cI cZ n0 h0 h3 h4 h5 h6 c0 c8 c9 c10 c11 c12 c13 t0 t8 t9 t10 t11 t12 t13 i0 i1 i2 i3 i4 m0 m1 m2 uH uC uT uI uM l1316_26 hc119) (lw_V qm_L_182 qi_X4_warmthOf qs_X4_warmthOf qn_X4 qc_X4_warmthOf) hd_X4_warmthOf ⟨rfl, rfl⟩ ⟨Nat.le_of_ble_eq_true rfl, Nat.le_of_ble_eq_true rfl⟩ ⟨by show kc ≤ 600130; omega, by show sc ≤ 7301080; omega⟩ rfl rfl rfl hl.1 (Nat.le_of_ble_eq_true rfl) rfl dL_law_1341 ?_
                  refine lv_aload hx hb dL_law_1344 (lv_at hl 5 rfl) ?_
                  refine lv_iload hx hb dL_law_1346 (lv_at hl 8 rfl) ?_
                  obtain ⟨hi120, hok⟩ := gd_some hok
                  refine xl hx hb hK hP 0 0 rfl rfl (j := l1316_26.toNatClampNeg) rfl hi120 dL_law_1348 ?_
                  refine lv_icmp_ge (tgt := 1373) hx hb dL_law_1349 (by decide) (fun hc => ?_) (fun hc => ?_)
                  · have hok := ip hok hc
                    refine lv_iinc (v := (l1316_26 + 1)) (lv' := [(26, .int (l1316_26 + 1)), (0, .ref b), (1, .ref n0), (2, .ref g0), (3, .int l1316_3), (13, .int l1316_13), (14, .ref q1316_0), (15, .ref q1316_1), (22, .int l1316_22)]) hx hb dL_law_1373 hl (k := 8) rfl rfl (by decide) rfl (fun ls hl => ?_)
                    refine lv_goto (tgt := 1262) hx hb dL_law_1376 (by decide) ?_
                    exact ih1262 g7 g8 g9 g10 g11 g12 G9 G10 G11 G12 uH uC uT uI uM uG q1316_0 f1316_0 n1316_0 q1316_1 f1316_1 n1316_1 l1316_3 l1316_13 l1316_22 (l1316_26 + 1) kc sc (by omega) (by omega) _ _ hP hD hS _ (lv_sub hl [1, 2, 3, 4, 5, 6, 7, 8, 0] rfl) hok
                  · have hok := iq hok hc
                    refine lv_goto (tgt := 1371) hx hb dL_law_1352 (by decide) ?_
                    refine lv_iconst (v := (0 : Int32)) hx hb dL_law_1371 (by decide) ?_
                    cases hok
          have J1286 : ∀ (g7 : Nat) (g8 : Nat) (g9 : Nat) (g10 : Nat) (g11 : Nat) (g12 : Nat) (G9 : (Nat → Nat)) (G10 : (Nat → Nat)) (G11 : (Nat → Nat)) (G12 : (Nat → Nat)) (uH : tX1) (uC : tX0) (uT : tX0) (uI : tX2) (uM : tX3) (uG : tX5) (q1286_0 : Nat) (f1286_0 : (Nat → Int32)) (n1286_0 : Nat) (q1286_1 : Nat) (f1286_1 : (Nat → Int32)) (n1286_1 : Nat) (l1286_3 : Int32) (l1286_13 : Int32) (l1286_22 : Int32) (l1286_26 : Int32) (kc sc : Nat) (hkc : kc + 0 + 128 * n22 + 1 ≤ 600130) (hsc : sc + 0 + 8418 * n22 + 8 ≤ 7301080) (H : Heap) (locs : List Loc) (hP : va_P (dC, dI) vwCl ((wN cI cZ n0 h0 h3 h4 h5 h6 c0 c8 c9 c10 c11 c12 c13 t0 t8 t9 t10 t11 t12 t13 i0 i1 i2 i3 i4 m0 m1 m2 uH uC uT uI uM) ++ (wX5 cI cZ cJ g0 g7 g8 g9 g10 g11 g12 G9 G10 G11 G12 uG ++ [(q1286_0, .inl (cI, n1286_0, .inl f1286_0)), (q1286_1, .inl (cZ, n1286_1, .inl f1286_1))])) H) (hD : va_D A ((wN cI cZ n0 h0 h3 h4 h5 h6 c0 c8 c9 c10 c11 c12 c13 t0 t8 t9 t10 t11 t12 t13 i0 i1 i2 i3 i4 m0 m1 m2 uH uC uT uI uM) ++ (wX5 cI cZ cJ g0 g7 g8 g9 g10 g11 g12 G9 G10 G11 G12 uG ++ [(q1286_0, .inl (cI, n1286_0, .inl f1286_0)), (q1286_1, .inl (cZ, n1286_1, .inl f1286_1))]))) (hS : va_S A s.heap H locs) (ls : Array Slot) (hl : lv_has ls 27 [(0, .ref b), (1, .ref n0), (2, .ref g0), (3, .int l1286_3), (13, .int l1286_13), (14, .ref q1286_0), (15, .ref q1286_1), (22, .int l1286_22), (26, .int l1286_26)]) (hok : p_L_law_J1286 xv Lc (p_L_law_L22 xv Lc n22) (p_L_law_L1262 xv Lc (p_L_law_L22 xv Lc n22) n1262) uH uC uT uI uM uG f1286_0 n1286_0 f1286_1 n1286_1 l1286_3 l1286_13 l1286_22 l1286_26 = some z), W p l e room_1 s m #[Value.ref b] below meth c H locs kc sc (lw_Z below #[Value.ref b] s) (F0 m 1286 ls []) := by
            intro g7 g8 g9 g10 g11 g12 G9 G10 G11 G12 uH uC uT uI uM uG q1286_0 f1286_0 n1286_0 q1286_1 f1286_1 n1286_1 l1286_3 l1286_13 l1286_22 l1286_26 kc sc hkc hsc H locs hP hD hS ls hl hok
            unfold p_L_law_J1286 at hok
            refine lv_aload hx hb dL_law_1286 (lv_at hl 6 rfl) ?_
            refine lv_iload hx hb dL_law_1288 (lv_at hl 8 rfl) ?_
            obtain ⟨hi112, hok⟩ := gd_some hok
            refine xlz hx hb hK hP 1 1 rfl rfl (j := l1286_26.toNatClampNeg) rfl hi112 dL_law_1290 ?_
            refine lv_if_eq (tgt := 1316) hx hb dL_law_1291 (by decide) (fun hc => ?_) (fun hc => ?_)
            · have hok := ip hok hc
              exact J1316 g7 g8 g9 g10 g11 g12 G9 G10 G11 G12 uH uC uT uI uM uG q1286_0 f1286_0 n1286_0 q1286_1 f1286_1 n1286_1 l1286_3 l1286_13 l1286_22 l1286_26 kc sc (by omega) (by omega) _ _ hP hD hS _ hl hok
            · have hok := iq hok hc
              refine lv_aload_n hx hb dL_law_1294 rfl (lv_at hl 1 rfl) ?_
              refine lv_iload hx hb dL_law_1295 (lv_at hl 8 rfl) ?_
              obtain ⟨v113, hc113, hok⟩ := bd_some hok
              refine cRVi (ci := 4) (q0 := 0) [.int l1286_26] S hK2 (va_Pmid (wa := []) hP) (c_X4_isSubscriber l dC dI cI cZ n0 h0 h3 h4 h5 h6 c0 c8 c9 c10 c11 c12 c13 t0 t8 t9 t10 t11 t12 t13 i0 i1 i2 i3 i4 m0 m1 m2 uH uC uT uI uM l1286_26 hc113) (lw_V qm_L_185 qi_X4_isSubscriber qs_X4_isSubscriber qn_X4 qc_X4_isSubscriber) hd_X4_isSubscriber ⟨rfl, rfl⟩ ⟨Nat.le_of_ble_eq_true rfl, Nat.le_of_ble_eq_true rfl⟩ ⟨by show kc ≤ 600130; omega, by show sc ≤ 7301080; omega⟩ rfl rfl rfl hl.1 (Nat.le_of_ble_eq_true rfl) rfl dL_law_1297 ?_
              refine lv_if_ne (tgt := 1316) hx hb dL_law_1300 (by decide) (fun hc => ?_) (fun hc => ?_)
              · have hok := iq hok hc
                exact J1316 g7 g8 g9 g10 g11 g12 G9 G10 G11 G12 uH uC uT uI uM uG q1286_0 f1286_0 n1286_0 q1286_1 f1286_1 n1286_1 l1286_3 l1286_13 l1286_22 l1286_26 kc sc (by omega) (by omega) _ _ hP hD hS _ hl hok
              · have hok := ip hok hc
                refine lv_aload hx hb dL_law_1303 (lv_at hl 5 rfl) ?_
                refine lv_iload hx hb dL_law_1305 (lv_at hl 8 rfl) ?_
                obtain ⟨hi114, hok⟩ := gd_some hok
                refine xl hx hb hK hP 0 0 rfl rfl (j := l1286_26.toNatClampNeg) rfl hi114 dL_law_1307 ?_
                refine lv_if_gt (tgt := 1371) hx hb dL_law_1308 (by decide) (fun hc => ?_) (fun hc => ?_)
                · have hok := ip hok hc
                  refine lv_iconst (v := (0 : Int32)) hx hb dL_law_1371 (by decide) ?_
                  cases hok
                · have hok := iq hok hc
                  refine lv_iload hx hb dL_law_1311 (lv_at hl 7 rfl) ?_
                  refine lv_if_gt (tgt := 1371) hx hb dL_law_1313 (by decide) (fun hc => ?_) (fun hc => ?_)
                  · have hok := ip hok hc
                    refine lv_iconst (v := (0 : Int32)) hx hb dL_law_1371 (by decide) ?_
                    cases hok
                  · have hok := iq hok hc
                    exact J1316 g7 g8 g9 g10 g11 g12 G9 G10 G11 G12 uH uC uT uI uM uG q1286_0 f1286_0 n1286_0 q1286_1 f1286_1 n1286_1 l1286_3 l1286_13 l1286_22 l1286_26 kc sc (by omega) (by omega) _ _ hP hD hS _ hl hok
          intro g7 g8 g9 g10 g11 g12 G9 G10 G11 G12 uH uC uT uI uM uG q1262_0 f1262_0 n1262_0 q1262_1 f1262_1 n1262_1 l1262_3 l1262_13 l1262_22 l1262_26 kc sc hkc hsc H locs hP hD hS ls hl hok
          rw [p_L_law_L1262] at hok
          refine lv_iload hx hb dL_law_1262 (lv_at hl 8 rfl) ?_
          refine lv_iload hx hb dL_law_1264 (lv_at hl 4 rfl) ?_
          refine lv_icmp_ge (tgt := 1379) hx hb dL_law_1266 (by decide) (fun hc => ?_) (fun hc => ?_)
          · have hok := ip hok hc
            refine lv_aload_n hx hb dL_law_1379 rfl (lv_at hl 1 rfl) ?_
            obtain ⟨v108, hc108, hok⟩ := bd_some hok
            refine cRVi (ci := 4) (q0 := 0) [] S hK2 (va_Pmid (wa := []) hP) (c_X4_calls l dC dI cI cZ n0 h0 h3 h4 h5 h6 c0 c8 c9 c10 c11 c12 c13 t0 t8 t9 t10 t11 t12 t13 i0 i1 i2 i3 i4 m0 m1 m2 uH uC uT uI uM hc108) (lw_V qm_L_128 qi_X4_calls qs_X4_calls qn_X4 qc_X4_calls) hd_X4_calls ⟨rfl, rfl⟩ ⟨Nat.le_of_ble_eq_true rfl, Nat.le_of_ble_eq_true rfl⟩ ⟨by show kc ≤ 600130; omega, by show sc ≤ 7301080; omega⟩ rfl rfl rfl hl.1 (Nat.le_of_ble_eq_true rfl) rfl dL_law_1380 ?_
            refine lv_if_ne (tgt := 1395) hx hb dL_law_1383 (by decide) (fun hc => ?_) (fun hc => ?_)
            · have hok := iq hok hc
              refine lv_iinc (v := (l1262_3 + 1)) (lv' := [(3, .int (l1262_3 + 1)), (0, .ref b), (1, .ref n0), (2, .ref g0), (13, .int l1262_13), (14, .ref q1262_0), (15, .ref q1262_1), (22, .int l1262_22), (26, .int l1262_26)]) hx hb dL_law_1395 hl (k := 3) rfl rfl (by decide) rfl (fun ls hl => ?_)
              refine lv_goto (tgt := 22) hx hb dL_law_1398 (by decide) ?_
              have hP := dx_P (ex' := ([] : va_W)) [] rfl hP
              have hD := dx_D (ex' := ([] : va_W)) [] (by decide) rfl hD
              exact ih22 g7 g8 g9 g10 g11 g12 G9 G10 G11 G12 uH uC uT uI uM uG (l1262_3 + 1) kc sc (by omega) (by omega) _ _ hP hD hS _ (lv_sub hl [1, 2, 3, 0] rfl) hok
            · have hok := ip hok hc
              refine lv_aload_n hx hb dL_law_1386 rfl (lv_at hl 1 rfl) ?_
              obtain ⟨v109, hc109, hok⟩ := bd_some hok
              refine cRVi (ci := 4) (q0 := 0) [] S hK2 (va_Pmid (wa := []) hP) (c_X4_goes l dC dI cI cZ n0 h0 h3 h4 h5 h6 c0 c8 c9 c10 c11 c12 c13 t0 t8 t9 t10 t11 t12 t13 i0 i1 i2 i3 i4 m0 m1 m2 uH uC uT uI uM hc109) (lw_V qm_L_137 qi_X4_goes qs_X4_goes qn_X4 qc_X4_goes) hd_X4_goes ⟨rfl, rfl⟩ ⟨Nat.le_of_ble_eq_true rfl, Nat.le_of_ble_eq_true rfl⟩ ⟨by show kc ≤ 600130; omega, by show sc ≤ 7301080; omega⟩ rfl rfl rfl hl.1 (Nat.le_of_ble_eq_true rfl) rfl dL_law_1387 ?_
              refine lv_if_eq (tgt := 1395) hx hb dL_law_1390 (by decide) (fun hc => ?_) (fun hc => ?_)
              · have hok := ip hok hc
                refine lv_iinc (v := (l1262_3 + 1)) (lv' := [(3, .int (l1262_3 + 1)), (0, .ref b), (1, .ref n0), (2, .ref g0), (13, .int l1262_13), (14, .ref q1262_0), (15, .ref q1262_1), (22, .int l1262_22), (26, .int l1262_26)]) hx hb dL_law_1395 hl (k := 3) rfl rfl (by decide) rfl (fun ls hl => ?_)
                refine lv_goto (tgt := 22) hx hb dL_law_1398 (by decide) ?_
                have hP := dx_P (ex' := ([] : va_W)) [] rfl hP
                have hD := dx_D (ex' := ([] : va_W)) [] (by decide) rfl hD
                exact ih22 g7 g8 g9 g10 g11 g12 G9 G10 G11 G12 uH uC uT uI uM uG (l1262_3 + 1) kc sc (by omega) (by omega) _ _ hP hD hS _ (lv_sub hl [1, 2, 3, 0] rfl) hok
              · have hok := iq hok hc
                refine lv_iconst (v := (0 : Int32)) hx hb dL_law_1393 (by decide) ?_
                cases hok
          · have hok := iq hok hc
            refine lv_aload_n hx hb dL_law_1269 rfl (lv_at hl 1 rfl) ?_
            refine lv_iload hx hb dL_law_1270 (lv_at hl 8 rfl) ?_
            obtain ⟨v110, hc110, hok⟩ := bd_some hok
            refine cRVi (ci := 4) (q0 := 0) [.int l1262_26] S hK2 (va_Pmid (wa := []) hP) (c_X4_isSubscriber l dC dI cI cZ n0 h0 h3 h4 h5 h6 c0 c8 c9 c10 c11 c12 c13 t0 t8 t9 t10 t11 t12 t13 i0 i1 i2 i3 i4 m0 m1 m2 uH uC uT uI uM l1262_26 hc110) (lw_V qm_L_185 qi_X4_isSubscriber qs_X4_isSubscriber qn_X4 qc_X4_isSubscriber) hd_X4_isSubscriber ⟨rfl, rfl⟩ ⟨Nat.le_of_ble_eq_true rfl, Nat.le_of_ble_eq_true rfl⟩ ⟨by show kc ≤ 600130; omega, by show sc ≤ 7301080; omega⟩ rfl rfl rfl hl.1 (Nat.le_of_ble_eq_true rfl) rfl dL_law_1272 ?_
            refine lv_if_eq (tgt := 1286) hx hb dL_law_1275 (by decide) (fun hc => ?_) (fun hc => ?_)
            · have hok := ip hok hc
              exact J1286 g7 g8 g9 g10 g11 g12 G9 G10 G11 G12 uH uC uT uI uM uG q1262_0 f1262_0 n1262_0 q1262_1 f1262_1 n1262_1 l1262_3 l1262_13 l1262_22 l1262_26 kc sc (by omega) (by omega) _ _ hP hD hS _ hl hok
            · have hok := iq hok hc
              refine lv_aload hx hb dL_law_1278 (lv_at hl 6 rfl) ?_
              refine lv_iload hx hb dL_law_1280 (lv_at hl 8 rfl) ?_
              obtain ⟨hi111, hok⟩ := gd_some hok
              refine xlz hx hb hK hP 1 1 rfl rfl (j := l1262_26.toNatClampNeg) rfl hi111 dL_law_1282 ?_
              refine lv_if_eq (tgt := 1371) hx hb dL_law_1283 (by decide) (fun hc => ?_) (fun hc => ?_)
              · have hok := ip hok hc
                refine lv_iconst (v := (0 : Int32)) hx hb dL_law_1371 (by decide) ?_
                cases hok
              · have hok := iq hok hc
                exact J1286 g7 g8 g9 g10 g11 g12 G9 G10 G11 G12 uH uC uT uI uM uG q1262_0 f1262_0 n1262_0 q1262_1 f1262_1 n1262_1 l1262_3 l1262_13 l1262_22 l1262_26 kc sc (by omega) (by omega) _ _ hP hD hS _ hl hok
      have J1186 : ∀ (g7 : Nat) (g8 : Nat) (g9 : Nat) (g10 : Nat) (g11 : Nat) (g12 : Nat) (G9 : (Nat → Nat)) (G10 : (Nat → Nat)) (G11 : (Nat → Nat)) (G12 : (Nat → Nat)) (uH : tX1) (uC : tX0) (uT : tX0) (uI : tX2) (uM : tX3) (uG : tX5) (q1186_0 : Nat) (f1186_0 : (Nat → Int32)) (n1186_0 : Nat) (q1186_1 : Nat) (f1186_1 : (Nat → Int32)) (n1186_1 : Nat) (l1186_3 : Int32) (l1186_6 : Int32) (l1186_13 : Int32) (l1186_20 : Int32) (l1186_22 : Int32) (kc sc : Nat) (hkc : kc + 0 + 128 * n22 + 1 ≤ 600130) (hsc : sc + 0 + 8418 * n22 + 8 ≤ 7301080) (H : Heap) (locs : List Loc) (hP : va_P (dC, dI) vwCl ((wN cI cZ n0 h0 h3 h4 h5 h6 c0 c8 c9 c10 c11 c12 c13 t0 t8 t9 t10 t11 t12 t13 i0 i1 i2 i3 i4 m0 m1 m2 uH uC uT uI uM) ++ (wX5 cI cZ cJ g0 g7 g8 g9 g10 g11 g12 G9 G10 G11 G12 uG ++ [(q1186_0, .inl (cI, n1186_0, .inl f1186_0)), (q1186_1, .inl (cZ, n1186_1, .inl f1186_1))])) H) (hD : va_D A ((wN cI cZ n0 h0 h3 h4 h5 h6 c0 c8 c9 c10 c11 c12 c13 t0 t8 t9 t10 t11 t12 t13 i0 i1 i2 i3 i4 m0 m1 m2 uH uC uT uI uM) ++ (wX5 cI cZ cJ g0 g7 g8 g9 g10 g11 g12 G9 G10 G11 G12 uG ++ [(q1186_0, .inl (cI, n1186_0, .inl f1186_0)), (q1186_1, .inl (cZ, n1186_1, .inl f1186_1))]))) (hS : va_S A s.heap H locs) (ls : Array Slot) (hl : lv_has ls 27 [(0, .ref b), (1, .ref n0), (2, .ref g0), (3, .int l1186_3), (6, .int l1186_6), (13, .int l1186_13), (14, .ref q1186_0), (15, .ref q1186_1), (20, .int l1186_20), (22, .int l1186_22)]) (hok : p_L_law_J1186 xv Lc (p_L_law_L22 xv Lc n22) uH uC uT uI uM uG f1186_0 n1186_0 f1186_1 n1186_1 l1186_3 l1186_6 l1186_13 l1186_20 l1186_22 = some z), W p l e room_1 s m #[Value.ref b] below meth c H locs kc sc (lw_Z below #[Value.ref b] s) (F0 m 1186 ls []) := by
        intro g7 g8 g9 g10 g11 g12 G9 G10 G11 G12 uH uC uT uI uM uG q1186_0 f1186_0 n1186_0 q1186_1 f1186_1 n1186_1 l1186_3 l1186_6 l1186_13 l1186_20 l1186_22 kc sc hkc hsc H locs hP hD hS ls hl hok
        unfold p_L_law_J1186 at hok
        refine lv_iload hx hb dL_law_1186 (lv_at hl 9 rfl) ?_
        refine lv_if_le (tgt := 1259) hx hb dL_law_1188 (by decide) (fun hc => ?_) (fun hc => ?_)
        · have hok := ip hok hc
          refine lv_iconst (v := (0 : Int32)) hx hb dL_law_1259 (by decide) ?_
          refine lv_istore (lv' := [(26, .int (0 : Int32)), (0, .ref b), (1, .ref n0), (2, .ref g0), (3, .int l1186_3), (6, .int l1186_6), (13, .int l1186_13), (14, .ref q1186_0), (15, .ref q1186_1), (20, .int l1186_20), (22, .int l1186_22)]) hx hb dL_law_1260 hl (by decide) rfl (fun ls hl => ?_)
          exact L1262 200 g7 g8 g9 g10 g11 g12 G9 G10 G11 G12 uH uC uT uI uM uG q1186_0 f1186_0 n1186_0 q1186_1 f1186_1 n1186_1 l1186_3 l1186_13 l1186_22 (0 : Int32) kc sc (by omega) (by omega) _ _ hP hD hS _ (lv_sub hl [1, 2, 3, 4, 6, 7, 8, 10, 0] rfl) hok
        · have hok := iq hok hc
          refine lv_aload_n hx hb dL_law_1191 rfl (lv_at hl 1 rfl) ?_
          refine lv_iload hx hb dL_law_1192 (lv_at hl 4 rfl) ?_
          obtain ⟨v98, hc98, hok⟩ := bd_some hok
          refine cRVi (ci := 4) (q0 := 0) [.int l1186_6] S hK2 (va_Pmid (wa := []) hP) (c_X4_thrillIn l dC dI cI cZ n0 h0 h3 h4 h5 h6 c0 c8 c9 c10 c11 c12 c13 t0 t8 t9 t10 t11 t12 t13 i0 i1 i2 i3 i4 m0 m1 m2 uH uC uT uI uM l1186_6 hc98) (lw_V qm_L_154 qi_X4_thrillIn qs_X4_thrillIn qn_X4 qc_X4_thrillIn) hd_X4_thrillIn ⟨rfl, rfl⟩ ⟨Nat.le_of_ble_eq_true rfl, Nat.le_of_ble_eq_true rfl⟩ ⟨by show kc ≤ 600130; omega, by show sc ≤ 7301080; omega⟩ rfl rfl rfl hl.1 (Nat.le_of_ble_eq_true rfl) rfl dL_law_1194 ?_
          refine lv_aload_n hx hb dL_law_1197 rfl (lv_at hl 1 rfl) ?_
          refine lv_aload_n hx hb dL_law_1198 rfl (lv_at hl 1 rfl) ?_
          refine lv_iload hx hb dL_law_1199 (lv_at hl 4 rfl) ?_
          obtain ⟨v99, hc99, hok⟩ := bd_some hok
          refine cRVi (ci := 4) (q0 := 0) [.int l1186_6] S hK2 (va_Pmid (wa := []) hP) (c_X4_floorIn l dC dI cI cZ n0 h0 h3 h4 h5 h6 c0 c8 c9 c10 c11 c12 c13 t0 t8 t9 t10 t11 t12 t13 i0 i1 i2 i3 i4 m0 m1 m2 uH uC uT uI uM l1186_6 hc99) (lw_V qm_L_145 qi_X4_floorIn qs_X4_floorIn qn_X4 qc_X4_floorIn) hd_X4_floorIn ⟨rfl, rfl⟩ ⟨Nat.le_of_ble_eq_true rfl, Nat.le_of_ble_eq_true rfl⟩ ⟨by show kc ≤ 600130; omega, by show sc ≤ 7301080; omega⟩ rfl rfl rfl hl.1 (Nat.le_of_ble_eq_true rfl) rfl dL_law_1201 ?_
          refine lv_aload_n hx hb dL_law_1204 rfl (lv_at hl 1 rfl) ?_
          refine lv_iload hx hb dL_law_1205 (lv_at hl 4 rfl) ?_
          obtain ⟨v100, hc100, hok⟩ := bd_some hok
          refine cRVi (ci := 4) (q0 := 0) [.int l1186_6] S hK2 (va_Pmid (wa := []) hP) (c_X4_paragraphIn l dC dI cI cZ n0 h0 h3 h4 h5 h6 c0 c8 c9 c10 c11 c12 c13 t0 t8 t9 t10 t11 t12 t13 i0 i1 i2 i3 i4 m0 m1 m2 uH uC uT uI uM l1186_6 hc100) (lw_V qm_L_148 qi_X4_paragraphIn qs_X4_paragraphIn qn_X4 qc_X4_paragraphIn) hd_X4_paragraphIn ⟨rfl, rfl⟩ ⟨Nat.le_of_ble_eq_true rfl, Nat.le_of_ble_eq_true rfl⟩ ⟨by show kc ≤ 600130; omega, by show sc ≤ 7301080; omega⟩ rfl rfl rfl hl.1 (Nat.le_of_ble_eq_true rfl) rfl dL_law_1207 ?_
          obtain ⟨v101, hc101, hok⟩ := bd_some hok
          refine cRVi (ci := 4) (q0 := 0) [.int v99, .int v100] S hK2 (va_Pmid (wa := []) hP) (c_X4_thrillOf l dC dI cI cZ n0 h0 h3 h4 h5 h6 c0 c8 c9 c10 c11 c12 c13 t0 t8 t9 t10 t11 t12 t13 i0 i1 i2 i3 i4 m0 m1 m2 uH uC uT uI uM v99 v100 hc101) (lw_V qm_L_151 qi_X4_thrillOf qs_X4_thrillOf qn_X4 qc_X4_thrillOf) hd_X4_thrillOf ⟨rfl, rfl⟩ ⟨Nat.le_of_ble_eq_true rfl, Nat.le_of_ble_eq_true rfl⟩ ⟨by show kc ≤ 600130; omega, by show sc ≤ 7301080; omega⟩ rfl rfl rfl hl.1 (Nat.le_of_ble_eq_true rfl) rfl dL_law_1210 ?_
          refine lv_iload hx hb dL_law_1213 (lv_at hl 8 rfl) ?_
          refine lv_iadd hx hb dL_law_1215 ?_
          refine lv_icmp_ne (tgt := 1257) hx hb dL_law_1216 (by decide) (fun hc => ?_) (fun hc => ?_)
          · have hok := iq hok hc
            refine lv_iconst (v := (0 : Int32)) hx hb dL_law_1257 (by decide) ?_
            cases hok
          · have hok := ip hok hc
            refine lv_aload_n hx hb dL_law_1219 rfl (lv_at hl 1 rfl) ?_
            refine lv_aload_n hx hb dL_law_1220 rfl (lv_at hl 1 rfl) ?_
            refine lv_aload_n hx hb dL_law_1221 rfl (lv_at hl 1 rfl) ?_
            refine lv_iload hx hb dL_law_1222 (lv_at hl 4 rfl) ?_
            obtain ⟨v102, hc102, hok⟩ := bd_some hok
            refine cRVi (ci := 4) (q0 := 0) [.int l1186_6] S hK2 (va_Pmid (wa := []) hP) (c_X4_floorIn l dC dI cI cZ n0 h0 h3 h4 h5 h6 c0 c8 c9 c10 c11 c12 c13 t0 t8 t9 t10 t11 t12 t13 i0 i1 i2 i3 i4 m0 m1 m2 uH uC uT uI uM l1186_6 hc102) (lw_V qm_L_145 qi_X4_floorIn qs_X4_floorIn qn_X4 qc_X4_floorIn) hd_X4_floorIn ⟨rfl, rfl⟩ ⟨Nat.le_of_ble_eq_true rfl, Nat.le_of_ble_eq_true rfl⟩ ⟨by show kc ≤ 600130; omega, by show sc ≤ 7301080; omega⟩ rfl rfl rfl hl.1 (Nat.le_of_ble_eq_true rfl) rfl dL_law_1224 ?_
            refine lv_aload_n hx hb dL_law_1227 rfl (lv_at hl 1 rfl) ?_
            refine lv_iload hx hb dL_law_1228 (lv_at hl 4 rfl) ?_
            obtain ⟨v103, hc103, hok⟩ := bd_some hok
            refine cRVi (ci := 4) (q0 := 0) [.int l1186_6] S hK2 (va_Pmid (wa := []) hP) (c_X4_paragraphIn l dC dI cI cZ n0 h0 h3 h4 h5 h6 c0 c8 c9 c10 c11 c12 c13 t0 t8 t9 t10 t11 t12 t13 i0 i1 i2 i3 i4 m0 m1 m2 uH uC uT uI uM l1186_6 hc103) (lw_V qm_L_148 qi_X4_paragraphIn qs_X4_paragraphIn qn_X4 qc_X4_paragraphIn) hd_X4_paragraphIn ⟨rfl, rfl⟩ ⟨Nat.le_of_ble_eq_true rfl, Nat.le_of_ble_eq_true rfl⟩ ⟨by show kc ≤ 600130; omega, by show sc ≤ 7301080; omega⟩ rfl rfl rfl hl.1 (Nat.le_of_ble_eq_true rfl) rfl dL_law_1230 ?_
            obtain ⟨v104, hc104, hok⟩ := bd_some hok
            refine cRVi (ci := 4) (q0 := 0) [.int v102, .int v103] S hK2 (va_Pmid (wa := []) hP) (c_X4_topicOf l dC dI cI cZ n0 h0 h3 h4 h5 h6 c0 c8 c9 c10 c11 c12 c13 t0 t8 t9 t10 t11 t12 t13 i0 i1 i2 i3 i4 m0 m1 m2 uH uC uT uI uM v102 v103 hc104) (lw_V qm_L_202 qi_X4_topicOf qs_X4_topicOf qn_X4 qc_X4_topicOf) hd_X4_topicOf ⟨rfl, rfl⟩ ⟨Nat.le_of_ble_eq_true rfl, Nat.le_of_ble_eq_true rfl⟩ ⟨by show kc ≤ 600130; omega, by show sc ≤ 7301080; omega⟩ rfl rfl rfl hl.1 (Nat.le_of_ble_eq_true rfl) rfl dL_law_1233 ?_
            obtain ⟨v105, hc105, hok⟩ := bd_some hok
            refine cRVi (ci := 4) (q0 := 0) [.int v104] S hK2 (va_Pmid (wa := []) hP) (c_X4_isForbidden l dC dI cI cZ n0 h0 h3 h4 h5 h6 c0 c8 c9 c10 c11 c12 c13 t0 t8 t9 t10 t11 t12 t13 i0 i1 i2 i3 i4 m0 m1 m2 uH uC uT uI uM v104 hc105) (lw_V qm_L_205 qi_X4_isForbidden qs_X4_isForbidden qn_X4 qc_X4_isForbidden) hd_X4_isForbidden ⟨rfl, rfl⟩ ⟨Nat.le_of_ble_eq_true rfl, Nat.le_of_ble_eq_true rfl⟩ ⟨by show kc ≤ 600130; omega, by show sc ≤ 7301080; omega⟩ rfl rfl rfl hl.1 (Nat.le_of_ble_eq_true rfl) rfl dL_law_1236 ?_
            refine lv_if_ne (tgt := 1257) hx hb dL_law_1239 (by decide) (fun hc => ?_) (fun hc => ?_)
            · have hok := iq hok hc
              refine lv_iconst (v := (0 : Int32)) hx hb dL_law_1257 (by decide) ?_
              cases hok
            · have hok := ip hok hc
              refine lv_aload_n hx hb dL_law_1242 rfl (lv_at hl 1 rfl) ?_
              refine lv_iload hx hb dL_law_1243 (lv_at hl 4 rfl) ?_
              obtain ⟨v106, hc106, hok⟩ := bd_some hok
              refine cRVi (ci := 4) (q0 := 0) [.int l1186_6] S hK2 (va_Pmid (wa := []) hP) (c_X4_hourIn l dC dI cI cZ n0 h0 h3 h4 h5 h6 c0 c8 c9 c10 c11 c12 c13 t0 t8 t9 t10 t11 t12 t13 i0 i1 i2 i3 i4 m0 m1 m2 uH uC uT uI uM l1186_6 hc106) (lw_V qm_L_157 qi_X4_hourIn qs_X4_hourIn qn_X4 qc_X4_hourIn) hd_X4_hourIn ⟨rfl, rfl⟩ ⟨Nat.le_of_ble_eq_true rfl, Nat.le_of_ble_eq_true rfl⟩ ⟨by show kc ≤ 600130; omega, by show sc ≤ 7301080; omega⟩ rfl rfl rfl hl.1 (Nat.le_of_ble_eq_true rfl) rfl dL_law_1245 ?_
              refine lv_aload_n hx hb dL_law_1248 rfl (lv_at hl 1 rfl) ?_
              obtain ⟨v107, hc107, hok⟩ := bd_some hok
              refine cRVi (ci := 4) (q0 := 0) [] S hK2 (va_Pmid (wa := []) hP) (c_X4_hours l dC dI cI cZ n0 h0 h3 h4 h5 h6 c0 c8 c9 c10 c11 c12 c13 t0 t8 t9 t10 t11 t12 t13 i0 i1 i2 i3 i4 m0 m1 m2 uH uC uT uI uM hc107) (lw_V qm_L_160 qi_X4_hours qs_X4_hours qn_X4 qc_X4_hours) hd_X4_hours ⟨rfl, rfl⟩ ⟨Nat.le_of_ble_eq_true rfl, Nat.le_of_ble_eq_true rfl⟩ ⟨by show kc ≤ 600130; omega, by show sc ≤ 7301080; omega⟩ rfl rfl rfl hl.1 (Nat.le_of_ble_eq_true rfl) rfl dL_law_1249 ?_
              refine lv_iconst (v := (1 : Int32)) hx hb dL_law_1252 (by decide) ?_
              refine lv_isub hx hb dL_law_1253 ?_
              refine lv_icmp_eq (tgt := 1259) hx hb dL_law_1254 (by decide) (fun hc => ?_) (fun hc => ?_)
              · have hok := ip hok hc
                refine lv_iconst (v := (0 : Int32)) hx hb dL_law_1259 (by decide) ?_
                refine lv_istore (lv' := [(26, .int (0 : Int32)), (0, .ref b), (1, .ref n0), (2, .ref g0), (3, .int l1186_3), (6, .int l1186_6), (13, .int l1186_13), (14, .ref q1186_0), (15, .ref q1186_1), (20, .int l1186_20), (22, .int l1186_22)]) hx hb dL_law_1260 hl (by decide) rfl (fun ls hl => ?_)
                exact L1262 200 g7 g8 g9 g10 g11 g12 G9 G10 G11 G12 uH uC uT uI uM uG q1186_0 f1186_0 n1186_0 q1186_1 f1186_1 n1186_1 l1186_3 l1186_13 l1186_22 (0 : Int32) kc sc (by omega) (by omega) _ _ hP hD hS _ (lv_sub hl [1, 2, 3, 4, 6, 7, 8, 10, 0] rfl) hok
              · have hok := iq hok hc
                refine lv_iconst (v := (0 : Int32)) hx hb dL_law_1257 (by decide) ?_
                cases hok
      have J1102 : ∀ (g7 : Nat) (g8 : Nat) (g9 : Nat) (g10 : Nat) (g11 : Nat) (g12 : Nat) (G9 : (Nat → Nat)) (G10 : (Nat → Nat)) (G11 : (Nat → Nat)) (G12 : (Nat → Nat)) (uH : tX1) (uC : tX0) (uT : tX0) (uI : tX2) (uM : tX3) (uG : tX5) (q1102_0 : Nat) (f1102_0 : (Nat → Int32)) (n1102_0 : Nat) (q1102_1 : Nat) (f1102_1 : (Nat → Int32)) (n1102_1 : Nat) (l1102_3 : Int32) (l1102_6 : Int32) (l1102_13 : Int32) (l1102_19 : Int32) (l1102_20 : Int32) (l1102_21 : Int32) (l1102_22 : Int32) (l1102_24 : Int32) (kc sc : Nat) (hkc : kc + 0 + 128 * n22 + 1 ≤ 600130) (hsc : sc + 0 + 8418 * n22 + 8 ≤ 7301080) (H : Heap) (locs : List Loc) (hP : va_P (dC, dI) vwCl ((wN cI cZ n0 h0 h3 h4 h5 h6 c0 c8 c9 c10 c11 c12 c13 t0 t8 t9 t10 t11 t12 t13 i0 i1 i2 i3 i4 m0 m1 m2 uH uC uT uI uM) ++ (wX5 cI cZ cJ g0 g7 g8 g9 g10 g11 g12 G9 G10 G11 G12 uG ++ [(q1102_0, .inl (cI, n1102_0, .inl f1102_0)), (q1102_1, .inl (cZ, n1102_1, .inl f1102_1))])) H) (hD : va_D A ((wN cI cZ n0 h0 h3 h4 h5 h6 c0 c8 c9 c10 c11 c12 c13 t0 t8 t9 t10 t11 t12 t13 i0 i1 i2 i3 i4 m0 m1 m2 uH uC uT uI uM) ++ (wX5 cI cZ cJ g0 g7 g8 g9 g10 g11 g12 G9 G10 G11 G12 uG ++ [(q1102_0, .inl (cI, n1102_0, .inl f1102_0)), (q1102_1, .inl (cZ, n1102_1, .inl f1102_1))]))) (hS : va_S A s.heap H locs) (ls : Array Slot) (hl : lv_has ls 27 [(0, .ref b), (1, .ref n0), (2, .ref g0), (3, .int l1102_3), (6, .int l1102_6), (13, .int l1102_13), (14, .ref q1102_0), (15, .ref q1102_1), (19, .int l1102_19), (20, .int l1102_20), (21, .int l1102_21), (22, .int l1102_22), (24, .int l1102_24)]) (hok : p_L_law_J1102 xv Lc (p_L_law_L22 xv Lc n22) uH uC uT uI uM uG f1102_0 n1102_0 f1102_1 n1102_1 l1102_3 l1102_6 l1102_13 l1102_19 l1102_20 l1102_21 l1102_22 l1102_24 = some z), W p l e room_1 s m #[Value.ref b] below meth c H locs kc sc (lw_Z below #[Value.ref b] s) (F0 m 1102 ls []) := by
        intro g7 g8 g9 g10 g11 g12 G9 G10 G11 G12 uH uC uT uI uM uG q1102_0 f1102_0 n1102_0 q1102_1 f1102_1 n1102_1 l1102_3 l1102_6 l1102_13 l1102_19 l1102_20 l1102_21 l1102_22 l1102_24 kc sc hkc hsc H locs hP hD hS ls hl hok
        unfold p_L_law_J1102 at hok
        refine lv_iload hx hb dL_law_1102 (lv_at hl 11 rfl) ?_
        refine lv_if_lt (tgt := 1141) hx hb dL_law_1104 (by decide) (fun hc => ?_) (fun hc => ?_)
        · have hok := ip hok hc
          refine lv_iconst (v := (0 : Int32)) hx hb dL_law_1141 (by decide) ?_
          cases hok
        · have hok := iq hok hc
          refine lv_iload hx hb dL_law_1107 (lv_at hl 11 rfl) ?_
          refine lv_iload hx hb dL_law_1109 (lv_at hl 12 rfl) ?_
          refine lv_icmp_gt (tgt := 1141) hx hb dL_law_1111 (by decide) (fun hc => ?_) (fun hc => ?_)
          · have hok := ip hok hc
            refine lv_iconst (v := (0 : Int32)) hx hb dL_law_1141 (by decide) ?_
            cases hok
          · have hok := iq hok hc
            refine lv_iload hx hb dL_law_1114 (lv_at hl 11 rfl) ?_
            refine lv_aload_n hx hb dL_law_1116 rfl (lv_at hl 1 rfl) ?_
            obtain ⟨v93, hc93, hok⟩ := bd_some hok
            refine cRVi (ci := 4) (q0 := 0) [] S hK2 (va_Pmid (wa := []) hP) (c_X4_cuts l dC dI cI cZ n0 h0 h3 h4 h5 h6 c0 c8 c9 c10 c11 c12 c13 t0 t8 t9 t10 t11 t12 t13 i0 i1 i2 i3 i4 m0 m1 m2 uH uC uT uI uM hc93) (lw_V qm_L_131 qi_X4_cuts qs_X4_cuts qn_X4 qc_X4_cuts) hd_X4_cuts ⟨rfl, rfl⟩ ⟨Nat.le_of_ble_eq_true rfl, Nat.le_of_ble_eq_true rfl⟩ ⟨by show kc ≤ 600130; omega, by show sc ≤ 7301080; omega⟩ rfl rfl rfl hl.1 (Nat.le_of_ble_eq_true rfl) rfl dL_law_1117 ?_
            refine lv_iadd hx hb dL_law_1120 ?_
            refine lv_iload hx hb dL_law_1121 (lv_at hl 10 rfl) ?_
            refine lv_isub hx hb dL_law_1123 ?_
            refine lv_iload hx hb dL_law_1124 (lv_at hl 12 rfl) ?_
            refine lv_icmp_gt (tgt := 1141) hx hb dL_law_1126 (by decide) (fun hc => ?_) (fun hc => ?_)
            · have hok := ip hok hc
              refine lv_iconst (v := (0 : Int32)) hx hb dL_law_1141 (by decide) ?_
              cases hok
            · have hok := iq hok hc
              refine lv_aload_n hx hb dL_law_1129 rfl (lv_at hl 1 rfl) ?_
              obtain ⟨v94, hc94, hok⟩ := bd_some hok
              refine cRVi (ci := 4) (q0 := 0) [] S hK2 (va_Pmid (wa := []) hP) (c_X4_instalments l dC dI cI cZ n0 h0 h3 h4 h5 h6 c0 c8 c9 c10 c11 c12 c13 t0 t8 t9 t10 t11 t12 t13 i0 i1 i2 i3 i4 m0 m1 m2 uH uC uT uI uM hc94) (lw_V qm_L_110 qi_X4_instalments qs_X4_instalments qn_X4 qc_X4_instalments) hd_X4_instalments ⟨rfl, rfl⟩ ⟨Nat.le_of_ble_eq_true rfl, Nat.le_of_ble_eq_true rfl⟩ ⟨by show kc ≤ 600130; omega, by show sc ≤ 7301080; omega⟩ rfl rfl rfl hl.1 (Nat.le_of_ble_eq_true rfl) rfl dL_law_1130 ?_
              refine lv_iload hx hb dL_law_1133 (lv_at hl 4 rfl) ?_
              refine lv_iload hx hb dL_law_1135 (lv_at hl 11 rfl) ?_
              refine lv_iadd hx hb dL_law_1137 ?_
              refine lv_icmp_eq (tgt := 1143) hx hb dL_law_1138 (by decide) (fun hc => ?_) (fun hc => ?_)
              · have hok := ip hok hc
                refine lv_iload hx hb dL_law_1143 (lv_at hl 11 rfl) ?_
                refine lv_if_le (tgt := 1158) hx hb dL_law_1145 (by decide) (fun hc => ?_) (fun hc => ?_)
                · have hok := ip hok hc
                  refine lv_iload hx hb dL_law_1158 (lv_at hl 8 rfl) ?_
                  refine lv_if_le (tgt := 1175) hx hb dL_law_1160 (by decide) (fun hc => ?_) (fun hc => ?_)
                  · have hok := ip hok hc
                    refine lv_aload_n hx hb dL_law_1175 rfl (lv_at hl 1 rfl) ?_
                    obtain ⟨v95, hc95, hok⟩ := bd_some hok
                    refine cRVi (ci := 4) (q0 := 0) [] S hK2 (va_Pmid (wa := []) hP) (c_X4_suspense l dC dI cI cZ n0 h0 h3 h4 h5 h6 c0 c8 c9 c10 c11 c12 c13 t0 t8 t9 t10 t11 t12 t13 i0 i1 i2 i3 i4 m0 m1 m2 uH uC uT uI uM hc95) (lw_V qm_L_142 qi_X4_suspense qs_X4_suspense qn_X4 qc_X4_suspense) hd_X4_suspense ⟨rfl, rfl⟩ ⟨Nat.le_of_ble_eq_true rfl, Nat.le_of_ble_eq_true rfl⟩ ⟨by show kc ≤ 600130; omega, by show sc ≤ 7301080; omega⟩ rfl rfl rfl hl.1 (Nat.le_of_ble_eq_true rfl) rfl dL_law_1176 ?_
                    refine lv_iload hx hb dL_law_1179 (lv_at hl 9 rfl) ?_
                    refine lv_icmp_eq (tgt := 1186) hx hb dL_law_1181 (by decide) (fun hc => ?_) (fun hc => ?_)
                    · have hok := ip hok hc
                      exact J1186 g7 g8 g9 g10 g11 g12 G9 G10 G11 G12 uH uC uT uI uM uG q1102_0 f1102_0 n1102_0 q1102_1 f1102_1 n1102_1 l1102_3 l1102_6 l1102_13 l1102_20 l1102_22 kc sc (by omega) (by omega) _ _ hP hD hS _ (lv_sub hl [0, 1, 2, 3, 4, 5, 6, 7, 9, 11] rfl) hok
                    · have hok := iq hok hc
                      refine lv_iconst (v := (0 : Int32)) hx hb dL_law_1184 (by decide) ?_
                      cases hok
                  · have hok := iq hok hc
                    refine lv_aload_n hx hb dL_law_1163 rfl (lv_at hl 1 rfl) ?_
                    obtain ⟨v96, hc96, hok⟩ := bd_some hok
                    refine cRVi (ci := 4) (q0 := 0) [] S hK2 (va_Pmid (wa := []) hP) (c_X4_suspense l dC dI cI cZ n0 h0 h3 h4 h5 h6 c0 c8 c9 c10 c11 c12 c13 t0 t8 t9 t10 t11 t12 t13 i0 i1 i2 i3 i4 m0 m1 m2 uH uC uT uI uM hc96) (lw_V qm_L_142 qi_X4_suspense qs_X4_suspense qn_X4 qc_X4_suspense) hd_X4_suspense ⟨rfl, rfl⟩ ⟨Nat.le_of_ble_eq_true rfl, Nat.le_of_ble_eq_true rfl⟩ ⟨by show kc ≤ 600130; omega, by show sc ≤ 7301080; omega⟩ rfl rfl rfl hl.1 (Nat.le_of_ble_eq_true rfl) rfl dL_law_1164 ?_
                    refine lv_iload hx hb dL_law_1167 (lv_at hl 9 rfl) ?_
                    refine lv_icmp_gt (tgt := 1186) hx hb dL_law_1169 (by decide) (fun hc => ?_) (fun hc => ?_)
                    · have hok := ip hok hc
                      exact J1186 g7 g8 g9 g10 g11 g12 G9 G10 G11 G12 uH uC uT uI uM uG q1102_0 f1102_0 n1102_0 q1102_1 f1102_1 n1102_1 l1102_3 l1102_6 l1102_13 l1102_20 l1102_22 kc sc (by omega) (by omega) _ _ hP hD hS _ (lv_sub hl [0, 1, 2, 3, 4, 5, 6, 7, 9, 11] rfl) hok
                    · have hok := iq hok hc
                      refine lv_goto (tgt := 1184) hx hb dL_law_1172 (by decide) ?_
                      refine lv_iconst (v := (0 : Int32)) hx hb dL_law_1184 (by decide) ?_
                      cases hok
                · have hok := iq hok hc
                  refine lv_aload_n hx hb dL_law_1148 rfl (lv_at hl 1 rfl) ?_
                  obtain ⟨v97, hc97, hok⟩ := bd_some hok
                  refine cRVi (ci := 4) (q0 := 0) [] S hK2 (va_Pmid (wa := []) hP) (c_X4_suspense l dC dI cI cZ n0 h0 h3 h4 h5 h6 c0 c8 c9 c10 c11 c12 c13 t0 t8 t9 t10 t11 t12 t13 i0 i1 i2 i3 i4 m0 m1 m2 uH uC uT uI uM hc97) (lw_V qm_L_142 qi_X4_suspense qs_X4_suspense qn_X4 qc_X4_suspense) hd_X4_suspense ⟨rfl, rfl⟩ ⟨Nat.le_of_ble_eq_true rfl, Nat.le_of_ble_eq_true rfl⟩ ⟨by show kc ≤ 600130; omega, by show sc ≤ 7301080; omega⟩ rfl rfl rfl hl.1 (Nat.le_of_ble_eq_true rfl) rfl dL_law_1149 ?_
                  refine lv_if_eq (tgt := 1186) hx hb dL_law_1152 (by decide) (fun hc => ?_) (fun hc => ?_)
                  · have hok := ip hok hc
                    exact J1186 g7 g8 g9 g10 g11 g12 G9 G10 G11 G12 uH uC uT uI uM uG q1102_0 f1102_0 n1102_0 q1102_1 f1102_1 n1102_1 l1102_3 l1102_6 l1102_13 l1102_20 l1102_22 kc sc (by omega) (by omega) _ _ hP hD hS _ (lv_sub hl [0, 1, 2, 3, 4, 5, 6, 7, 9, 11] rfl) hok
                  · have hok := iq hok hc
                    refine lv_goto (tgt := 1184) hx hb dL_law_1155 (by decide) ?_
                    refine lv_iconst (v := (0 : Int32)) hx hb dL_law_1184 (by decide) ?_
                    cases hok
              · have hok := iq hok hc
                refine lv_iconst (v := (0 : Int32)) hx hb dL_law_1141 (by decide) ?_
                cases hok
      have J1086 : ∀ (g7 : Nat) (g8 : Nat) (g9 : Nat) (g10 : Nat) (g11 : Nat) (g12 : Nat) (G9 : (Nat → Nat)) (G10 : (Nat → Nat)) (G11 : (Nat → Nat)) (G12 : (Nat → Nat)) (uH : tX1) (uC : tX0) (uT : tX0) (uI : tX2) (uM : tX3) (uG : tX5) (q1086_0 : Nat) (f1086_0 : (Nat → Int32)) (n1086_0 : Nat) (q1086_1 : Nat) (f1086_1 : (Nat → Int32)) (n1086_1 : Nat) (l1086_3 : Int32) (l1086_6 : Int32) (l1086_13 : Int32) (l1086_19 : Int32) (l1086_20 : Int32) (l1086_21 : Int32) (l1086_22 : Int32) (l1086_24 : Int32) (kc sc : Nat) (hkc : kc + 0 + 128 * n22 + 1 ≤ 600130) (hsc : sc + 0 + 8418 * n22 + 8 ≤ 7301080) (H : Heap) (locs : List Loc) (hP : va_P (dC, dI) vwCl ((wN cI cZ n0 h0 h3 h4 h5 h6 c0 c8 c9 c10 c11 c12 c13 t0 t8 t9 t10 t11 t12 t13 i0 i1 i2 i3 i4 m0 m1 m2 uH uC uT uI uM) ++ (wX5 cI cZ cJ g0 g7 g8 g9 g10 g11 g12 G9 G10 G11 G12 uG ++ [(q1086_0, .inl (cI, n1086_0, .inl f1086_0)), (q1086_1, .inl (cZ, n1086_1, .inl f1086_1))])) H) (hD : va_D A ((wN cI cZ n0 h0 h3 h4 h5 h6 c0 c8 c9 c10 c11 c12 c13 t0 t8 t9 t10 t11 t12 t13 i0 i1 i2 i3 i4 m0 m1 m2 uH uC uT uI uM) ++ (wX5 cI cZ cJ g0 g7 g8 g9 g10 g11 g12 G9 G10 G11 G12 uG ++ [(q1086_0, .inl (cI, n1086_0, .inl f1086_0)), (q1086_1, .inl (cZ, n1086_1, .inl f1086_1))]))) (hS : va_S A s.heap H locs) (ls : Array Slot) (hl : lv_has ls 27 [(0, .ref b), (1, .ref n0), (2, .ref g0), (3, .int l1086_3), (6, .int l1086_6), (13, .int l1086_13), (14, .ref q1086_0), (15, .ref q1086_1), (19, .int l1086_19), (20, .int l1086_20), (21, .int l1086_21), (22, .int l1086_22), (24, .int l1086_24)]) (hok : p_L_law_J1086 xv Lc (p_L_law_L22 xv Lc n22) uH uC uT uI uM uG f1086_0 n1086_0 f1086_1 n1086_1 l1086_3 l1086_6 l1086_13 l1086_19 l1086_20 l1086_21 l1086_22 l1086_24 = some z), W p l e room_1 s m #[Value.ref b] below meth c H locs kc sc (lw_Z below #[Value.ref b] s) (F0 m 1086 ls []) := by
        intro g7 g8 g9 g10 g11 g12 G9 G10 G11 G12 uH uC uT uI uM uG q1086_0 f1086_0 n1086_0 q1086_1 f1086_1 n1086_1 l1086_3 l1086_6 l1086_13 l1086_19 l1086_20 l1086_21 l1086_22 l1086_24 kc sc hkc hsc H locs hP hD hS ls hl hok
        unfold p_L_law_J1086 at hok
        refine lv_iload hx hb dL_law_1086 (lv_at hl 12 rfl) ?_
        refine lv_iconst (v := (1 : Int32)) hx hb dL_law_1088 (by decide) ?_
        refine lv_icmp_gt (tgt := 1141) hx hb dL_law_1089 (by decide) (fun hc => ?_) (fun hc => ?_)
        · have hok := ip hok hc
          refine lv_iconst (v := (0 : Int32)) hx hb dL_law_1141 (by decide) ?_
          cases hok
        · have hok := iq hok hc
          refine lv_iload hx hb dL_law_1092 (lv_at hl 8 rfl) ?_
          refine lv_if_le (tgt := 1102) hx hb dL_law_1094 (by decide) (fun hc => ?_) (fun hc => ?_)
          · have hok := ip hok hc
            exact J1102 g7 g8 g9 g10 g11 g12 G9 G10 G11 G12 uH uC uT uI uM uG q1086_0 f1086_0 n1086_0 q1086_1 f1086_1 n1086_1 l1086_3 l1086_6 l1086_13 l1086_19 l1086_20 l1086_21 l1086_22 l1086_24 kc sc (by omega) (by omega) _ _ hP hD hS _ hl hok
          · have hok := iq hok hc
            refine lv_iload hx hb dL_law_1097 (lv_at hl 12 rfl) ?_
            refine lv_if_gt (tgt := 1141) hx hb dL_law_1099 (by decide) (fun hc => ?_) (fun hc => ?_)
            · have hok := ip hok hc
              refine lv_iconst (v := (0 : Int32)) hx hb dL_law_1141 (by decide) ?_
              cases hok
            · have hok := iq hok hc
              exact J1102 g7 g8 g9 g10 g11 g12 G9 G10 G11 G12 uH uC uT uI uM uG q1086_0 f1086_0 n1086_0 q1086_1 f1086_1 n1086_1 l1086_3 l1086_6 l1086_13 l1086_19 l1086_20 l1086_21 l1086_22 l1086_24 kc sc (by omega) (by omega) _ _ hP hD hS _ hl hok
      have J1063 : ∀ (g7 : Nat) (g8 : Nat) (g9 : Nat) (g10 : Nat) (g11 : Nat) (g12 : Nat) (G9 : (Nat → Nat)) (G10 : (Nat → Nat)) (G11 : (Nat → Nat)) (G12 : (Nat → Nat)) (uH : tX1) (uC : tX0) (uT : tX0) (uI : tX2) (uM : tX3) (uG : tX5) (q1063_0 : Nat) (f1063_0 : (Nat → Int32)) (n1063_0 : Nat) (q1063_1 : Nat) (f1063_1 : (Nat → Int32)) (n1063_1 : Nat) (q1063_2 : Nat) (f1063_2 : (Nat → Int32)) (n1063_2 : Nat) (l1063_3 : Int32) (l1063_6 : Int32) (l1063_7 : Int32) (l1063_13 : Int32) (l1063_18 : Int32) (l1063_19 : Int32) (l1063_20 : Int32) (l1063_21 : Int32) (l1063_22 : Int32) (l1063_23 : Int32) (l1063_24 : Int32) (kc sc : Nat) (hkc : kc + 0 + 128 * n22 + 1 ≤ 600130) (hsc : sc + 0 + 8418 * n22 + 8 ≤ 7301080) (H : Heap) (locs : List Loc) (hP : va_P (dC, dI) vwCl ((wN cI cZ n0 h0 h3 h4 h5 h6 c0 c8 c9 c10 c11 c12 c13 t0 t8 t9 t10 t11 t12 t13 i0 i1 i2 i3 i4 m0 m1 m2 uH uC uT uI uM) ++ (wX5 cI cZ cJ g0 g7 g8 g9 g10 g11 g12 G9 G10 G11 G12 uG ++ [(q1063_0, .inl (cZ, n1063_0, .inl f1063_0)), (q1063_1, .inl (cI, n1063_1, .inl f1063_1)), (q1063_2, .inl (cZ, n1063_2, .inl f1063_2))])) H) (hD : va_D A ((wN cI cZ n0 h0 h3 h4 h5 h6 c0 c8 c9 c10 c11 c12 c13 t0 t8 t9 t10 t11 t12 t13 i0 i1 i2 i3 i4 m0 m1 m2 uH uC uT uI uM) ++ (wX5 cI cZ cJ g0 g7 g8 g9 g10 g11 g12 G9 G10 G11 G12 uG ++ [(q1063_0, .inl (cZ, n1063_0, .inl f1063_0)), (q1063_1, .inl (cI, n1063_1, .inl f1063_1)), (q1063_2, .inl (cZ, n1063_2, .inl f1063_2))]))) (hS : va_S A s.heap H locs) (ls : Array Slot) (hl : lv_has ls 27 [(0, .ref b), (1, .ref n0), (2, .ref g0), (3, .int l1063_3), (6, .int l1063_6), (7, .int l1063_7), (11, .ref q1063_0), (13, .int l1063_13), (14, .ref q1063_1), (15, .ref q1063_2), (18, .int l1063_18), (19, .int l1063_19), (20, .int l1063_20), (21, .int l1063_21), (22, .int l1063_22), (23, .int l1063_23), (24, .int l1063_24)]) (hok : p_L_law_J1063 xv Lc (p_L_law_L22 xv Lc n22) uH uC uT uI uM uG f1063_0 n1063_0 f1063_1 n1063_1 f1063_2 n1063_2 l1063_3 l1063_6 l1063_7 l1063_13 l1063_18 l1063_19 l1063_20 l1063_21 l1063_22 l1063_23 l1063_24 = some z), W p l e room_1 s m #[Value.ref b] below meth c H locs kc sc (lw_Z below #[Value.ref b] s) (F0 m 1063 ls []) := by
        intro g7 g8 g9 g10 g11 g12 G9 G10 G11 G12 uH uC uT uI uM uG q1063_0 f1063_0 n1063_0 q1063_1 f1063_1 n1063_1 q1063_2 f1063_2 n1063_2 l1063_3 l1063_6 l1063_7 l1063_13 l1063_18 l1063_19 l1063_20 l1063_21 l1063_22 l1063_23 l1063_24 kc sc hkc hsc H locs hP hD hS ls hl hok
        unfold p_L_law_J1063 at hok
        refine lv_iload hx hb dL_law_1063 (lv_at hl 11 rfl) ?_
        refine lv_if_ne (tgt := 1086) hx hb dL_law_1065 (by decide) (fun hc => ?_) (fun hc => ?_)
        · have hok := iq hok hc
          have hP := dx_P (ex' := [(q1063_1, .inl (cI, n1063_1, .inl f1063_1)), (q1063_2, .inl (cZ, n1063_2, .inl f1063_2))]) [1, 2] rfl hP
          have hD := dx_D (ex' := [(q1063_1, .inl (cI, n1063_1, .inl f1063_1)), (q1063_2, .inl (cZ, n1063_2, .inl f1063_2))]) [1, 2] (by decide) rfl hD
          exact J1086 g7 g8 g9 g10 g11 g12 G9 G10 G11 G12 uH uC uT uI uM uG q1063_1 f1063_1 n1063_1 q1063_2 f1063_2 n1063_2 l1063_3 l1063_6 l1063_13 l1063_19 l1063_20 l1063_21 l1063_22 l1063_24 kc sc (by omega) (by omega) _ _ hP hD hS _ (lv_sub hl [0, 1, 2, 3, 4, 7, 8, 9, 11, 12, 13, 14, 16] rfl) hok
        · have hok := ip hok hc
          refine lv_iload hx hb dL_law_1068 (lv_at hl 5 rfl) ?_
          refine lv_if_le (tgt := 1086) hx hb dL_law_1070 (by decide) (fun hc => ?_) (fun hc => ?_)
          · have hok := ip hok hc
            have hP := dx_P (ex' := [(q1063_1, .inl (cI, n1063_1, .inl f1063_1)), (q1063_2, .inl (cZ, n1063_2, .inl f1063_2))]) [1, 2] rfl hP
            have hD := dx_D (ex' := [(q1063_1, .inl (cI, n1063_1, .inl f1063_1)), (q1063_2, .inl (cZ, n1063_2, .inl f1063_2))]) [1, 2] (by decide) rfl hD
            exact J1086 g7 g8 g9 g10 g11 g12 G9 G10 G11 G12 uH uC uT uI uM uG q1063_1 f1063_1 n1063_1 q1063_2 f1063_2 n1063_2 l1063_3 l1063_6 l1063_13 l1063_19 l1063_20 l1063_21 l1063_22 l1063_24 kc sc (by omega) (by omega) _ _ hP hD hS _ (lv_sub hl [0, 1, 2, 3, 4, 7, 8, 9, 11, 12, 13, 14, 16] rfl) hok
          · have hok := iq hok hc
            refine lv_iload hx hb dL_law_1073 (lv_at hl 15 rfl) ?_
            refine lv_if_ne (tgt := 1086) hx hb dL_law_1075 (by decide) (fun hc => ?_) (fun hc => ?_)
            · have hok := iq hok hc
              have hP := dx_P (ex' := [(q1063_1, .inl (cI, n1063_1, .inl f1063_1)), (q1063_2, .inl (cZ, n1063_2, .inl f1063_2))]) [1, 2] rfl hP
              have hD := dx_D (ex' := [(q1063_1, .inl (cI, n1063_1, .inl f1063_1)), (q1063_2, .inl (cZ, n1063_2, .inl f1063_2))]) [1, 2] (by decide) rfl hD
              exact J1086 g7 g8 g9 g10 g11 g12 G9 G10 G11 G12 uH uC uT uI uM uG q1063_1 f1063_1 n1063_1 q1063_2 f1063_2 n1063_2 l1063_3 l1063_6 l1063_13 l1063_19 l1063_20 l1063_21 l1063_22 l1063_24 kc sc (by omega) (by omega) _ _ hP hD hS _ (lv_sub hl [0, 1, 2, 3, 4, 7, 8, 9, 11, 12, 13, 14, 16] rfl) hok
            · have hok := ip hok hc
              refine lv_aload hx hb dL_law_1078 (lv_at hl 6 rfl) ?_
              refine lv_iload hx hb dL_law_1080 (lv_at hl 10 rfl) ?_
              obtain ⟨hi89, hok⟩ := gd_some hok
              refine xlz hx hb hK hP 0 1 rfl rfl (j := l1063_18.toNatClampNeg) rfl hi89 dL_law_1082 ?_
              refine lv_if_eq (tgt := 1141) hx hb dL_law_1083 (by decide) (fun hc => ?_) (fun hc => ?_)
              · have hok := ip hok hc
                refine lv_iconst (v := (0 : Int32)) hx hb dL_law_1141 (by decide) ?_
                cases hok
              · have hok := iq hok hc
                have hP := dx_P (ex' := [(q1063_1, .inl (cI, n1063_1, .inl f1063_1)), (q1063_2, .inl (cZ, n1063_2, .inl f1063_2))]) [1, 2] rfl hP
                have hD := dx_D (ex' := [(q1063_1, .inl (cI, n1063_1, .inl f1063_1)), (q1063_2, .inl (cZ, n1063_2, .inl f1063_2))]) [1, 2] (by decide) rfl hD
                exact J1086 g7 g8 g9 g10 g11 g12 G9 G10 G11 G12 uH uC uT uI uM uG q1063_1 f1063_1 n1063_1 q1063_2 f1063_2 n1063_2 l1063_3 l1063_6 l1063_13 l1063_19 l1063_20 l1063_21 l1063_22 l1063_24 kc sc (by omega) (by omega) _ _ hP hD hS _ (lv_sub hl [0, 1, 2, 3, 4, 7, 8, 9, 11, 12, 13, 14, 16] rfl) hok
      have L973 : ∀ n973 : Nat, ∀ (g7 : Nat) (g8 : Nat) (g9 : Nat) (g10 : Nat) (g11 : Nat) (g12 : Nat) (G9 : (Nat → Nat)) (G10 : (Nat → Nat)) (G11 : (Nat → Nat)) (G12 : (Nat → Nat)) (uH : tX1) (uC : tX0) (uT : tX0) (uI : tX2) (uM : tX3) (uG : tX5) (q973_0 : Nat) (f973_0 : (Nat → Int32)) (n973_0 : Nat) (q973_1 : Nat) (f973_1 : (Nat → Int32)) (n973_1 : Nat) (q973_2 : Nat) (f973_2 : (Nat → Int32)) (n973_2 : Nat) (l973_3 : Int32) (l973_5 : Int32) (l973_6 : Int32) (l973_7 : Int32) (l973_13 : Int32) (l973_18 : Int32) (l973_19 : Int32) (l973_20 : Int32) (l973_21 : Int32) (l973_22 : Int32) (l973_23 : Int32) (l973_24 : Int32) (l973_25 : Int32) (l973_26 : Int32) (kc sc : Nat) (hkc : kc + 0 + 128 * n22 + 1 ≤ 600130) (hsc : sc + 0 + 8418 * n22 + 8 ≤ 7301080) (H : Heap) (locs : List Loc) (hP : va_P (dC, dI) vwCl ((wN cI cZ n0 h0 h3 h4 h5 h6 c0 c8 c9 c10 c11 c12 c13 t0 t8 t9 t10 t11 t12 t13 i0 i1 i2 i3 i4 m0 m1 m2 uH uC uT uI uM) ++ (wX5 cI cZ cJ g0 g7 g8 g9 g10 g11 g12 G9 G10 G11 G12 uG ++ [(q973_0, .inl (cZ, n973_0, .inl f973_0)), (q973_1, .inl (cI, n973_1, .inl f973_1)), (q973_2, .inl (cZ, n973_2, .inl f973_2))])) H) (hD : va_D A ((wN cI cZ n0 h0 h3 h4 h5 h6 c0 c8 c9 c10 c11 c12 c13 t0 t8 t9 t10 t11 t12 t13 i0 i1 i2 i3 i4 m0 m1 m2 uH uC uT uI uM) ++ (wX5 cI cZ cJ g0 g7 g8 g9 g10 g11 g12 G9 G10 G11 G12 uG ++ [(q973_0, .inl (cZ, n973_0, .inl f973_0)), (q973_1, .inl (cI, n973_1, .inl f973_1)), (q973_2, .inl (cZ, n973_2, .inl f973_2))]))) (hS : va_S A s.heap H locs) (ls : Array Slot) (hl : lv_has ls 27 [(0, .ref b), (1, .ref n0), (2, .ref g0), (3, .int l973_3), (5, .int l973_5), (6, .int l973_6), (7, .int l973_7), (11, .ref q973_0), (13, .int l973_13), (14, .ref q973_1), (15, .ref q973_2), (18, .int l973_18), (19, .int l973_19), (20, .int l973_20), (21, .int l973_21), (22, .int l973_22), (23, .int l973_23), (24, .int l973_24), (25, .int l973_25), (26, .int l973_26)]) (hok : p_L_law_L973 xv Lc (p_L_law_L22 xv Lc n22) n973 uH uC uT uI uM uG f973_0 n973_0 f973_1 n973_1 f973_2 n973_2 l973_3 l973_5 l973_6 l973_7 l973_13 l973_18 l973_19 l973_20 l973_21 l973_22 l973_23 l973_24 l973_25 l973_26 = some z), W p l e room_1 s m #[Value.ref b] below meth c H locs kc sc (lw_Z below #[Value.ref b] s) (F0 m 973 ls []) := by
        intro n973
        induction n973 with
        | zero =>
          intro g7 g8 g9 g10 g11 g12 G9 G10 G11 G12 uH uC uT uI uM uG q973_0 f973_0 n973_0 q973_1 f973_1 n973_1 q973_2 f973_2 n973_2 l973_3 l973_5 l973_6 l973_7 l973_13 l973_18 l973_19 l973_20 l973_21 l973_22 l973_23 l973_24 l973_25 l973_26 kc sc hkc hsc H locs hP hD hS ls hl hok
          rw [p_L_law_L973] at hok
          cases hok
        | succ n973 ih973 =>
          have J1019 : ∀ (g7 : Nat) (g8 : Nat) (g9 : Nat) (g10 : Nat) (g11 : Nat) (g12 : Nat) (G9 : (Nat → Nat)) (G10 : (Nat → Nat)) (G11 : (Nat → Nat)) (G12 : (Nat → Nat)) (uH : tX1) (uC : tX0) (uT : tX0) (uI : tX2) (uM : tX3) (uG : tX5) (q1019_0 : Nat) (f1019_0 : (Nat → Int32)) (n1019_0 : Nat) (q1019_1 : Nat) (f1019_1 : (Nat → Int32)) (n1019_1 : Nat) (q1019_2 : Nat) (f1019_2 : (Nat → Int32)) (n1019_2 : Nat) (l1019_3 : Int32) (l1019_5 : Int32) (l1019_6 : Int32) (l1019_7 : Int32) (l1019_13 : Int32) (l1019_18 : Int32) (l1019_19 : Int32) (l1019_20 : Int32) (l1019_21 : Int32) (l1019_22 : Int32) (l1019_23 : Int32) (l1019_24 : Int32) (l1019_26 : Int32) (kc sc : Nat) (hkc : kc + 0 + 128 * n22 + 1 ≤ 600130) (hsc : sc + 0 + 8418 * n22 + 8 ≤ 7301080) (H : Heap) (locs : List Loc) (hP : va_P (dC, dI) vwCl ((wN cI cZ n0 h0 h3 h4 h5 h6 c0 c8 c9 c10 c11 c12 c13 t0 t8 t9 t10 t11 t12 t13 i0 i1 i2 i3 i4 m0 m1 m2 uH uC uT uI uM) ++ (wX5 cI cZ cJ g0 g7 g8 g9 g10 g11 g12 G9 G10 G11 G12 uG ++ [(q1019_0, .inl (cZ, n1019_0, .inl f1019_0)), (q1019_1, .inl (cI, n1019_1, .inl f1019_1)), (q1019_2, .inl (cZ, n1019_2, .inl f1019_2))])) H) (hD : va_D A ((wN cI cZ n0 h0 h3 h4 h5 h6 c0 c8 c9 c10 c11 c12 c13 t0 t8 t9 t10 t11 t12 t13 i0 i1 i2 i3 i4 m0 m1 m2 uH uC uT uI uM) ++ (wX5 cI cZ cJ g0 g7 g8 g9 g10 g11 g12 G9 G10 G11 G12 uG ++ [(q1019_0, .inl (cZ, n1019_0, .inl f1019_0)), (q1019_1, .inl (cI, n1019_1, .inl f1019_1)), (q1019_2, .inl (cZ, n1019_2, .inl f1019_2))]))) (hS : va_S A s.heap H locs) (ls : Array Slot) (hl : lv_has ls 27 [(0, .ref b), (1, .ref n0), (2, .ref g0), (3, .int l1019_3), (5, .int l1019_5), (6, .int l1019_6), (7, .int l1019_7), (11, .ref q1019_0), (13, .int l1019_13), (14, .ref q1019_1), (15, .ref q1019_2), (18, .int l1019_18), (19, .int l1019_19), (20, .int l1019_20), (21, .int l1019_21), (22, .int l1019_22), (23, .int l1019_23), (24, .int l1019_24), (26, .int l1019_26)]) (hok : p_L_law_J1019 xv Lc (p_L_law_L22 xv Lc n22) (p_L_law_L973 xv Lc (p_L_law_L22 xv Lc n22) n973) uH uC uT uI uM uG f1019_0 n1019_0 f1019_1 n1019_1 f1019_2 n1019_2 l1019_3 l1019_5 l1019_6 l1019_7 l1019_13 l1019_18 l1019_19 l1019_20 l1019_21 l1019_22 l1019_23 l1019_24 l1019_26 = some z), W p l e room_1 s m #[Value.ref b] below meth c H locs kc sc (lw_Z below #[Value.ref b] s) (F0 m 1019 ls []) := by
            intro g7 g8 g9 g10 g11 g12 G9 G10 G11 G12 uH uC uT uI uM uG q1019_0 f1019_0 n1019_0 q1019_1 f1019_1 n1019_1 q1019_2 f1019_2 n1019_2 l1019_3 l1019_5 l1019_6 l1019_7 l1019_13 l1019_18 l1019_19 l1019_20 l1019_21 l1019_22 l1019_23 l1019_24 l1019_26 kc sc hkc hsc H locs hP hD hS ls hl hok
            unfold p_L_law_J1019 at hok
            refine lv_iconst (v := (0 : Int32)) hx hb dL_law_1019 (by decide) ?_
            refine lv_istore (lv' := [(25, .int (0 : Int32)), (0, .ref b), (1, .ref n0), (2, .ref g0), (3, .int l1019_3), (5, .int l1019_5), (6, .int l1019_6), (7, .int l1019_7), (11, .ref q1019_0), (13, .int l1019_13), (14, .ref q1019_1), (15, .ref q1019_2), (18, .int l1019_18), (19, .int l1019_19), (20, .int l1019_20), (21, .int l1019_21), (22, .int l1019_22), (23, .int l1019_23), (24, .int l1019_24), (26, .int l1019_26)]) hx hb dL_law_1020 hl (by decide) rfl (fun ls hl => ?_)
            refine lv_iinc (v := (l1019_26 + 1)) (lv' := [(26, .int (l1019_26 + 1)), (25, .int (0 : Int32)), (0, .ref b), (1, .ref n0), (2, .ref g0), (3, .int l1019_3), (5, .int l1019_5), (6, .int l1019_6), (7, .int l1019_7), (11, .ref q1019_0), (13, .int l1019_13), (14, .ref q1019_1), (15, .ref q1019_2), (18, .int l1019_18), (19, .int l1019_19), (20, .int l1019_20), (21, .int l1019_21), (22, .int l1019_22), (23, .int l1019_23), (24, .int l1019_24)]) hx hb dL_law_1022 hl (k := 19) rfl rfl (by decide) rfl (fun ls hl => ?_)
            refine lv_goto (tgt := 973) hx hb dL_law_1025 (by decide) ?_
            exact ih973 g7 g8 g9 g10 g11 g12 G9 G10 G11 G12 uH uC uT uI uM uG q1019_0 f1019_0 n1019_0 q1019_1 f1019_1 n1019_1 q1019_2 f1019_2 n1019_2 l1019_3 l1019_5 l1019_6 l1019_7 l1019_13 l1019_18 l1019_19 l1019_20 l1019_21 l1019_22 l1019_23 l1019_24 (0 : Int32) (l1019_26 + 1) kc sc (by omega) (by omega) _ _ hP hD hS _ (lv_sub hl [2, 3, 4, 5, 6, 7, 8, 9, 10, 11, 12, 13, 14, 15, 16, 17, 18, 19, 1, 0] rfl) hok
          have J1015 : ∀ (g7 : Nat) (g8 : Nat) (g9 : Nat) (g10 : Nat) (g11 : Nat) (g12 : Nat) (G9 : (Nat → Nat)) (G10 : (Nat → Nat)) (G11 : (Nat → Nat)) (G12 : (Nat → Nat)) (uH : tX1) (uC : tX0) (uT : tX0) (uI : tX2) (uM : tX3) (uG : tX5) (q1015_0 : Nat) (f1015_0 : (Nat → Int32)) (n1015_0 : Nat) (q1015_1 : Nat) (f1015_1 : (Nat → Int32)) (n1015_1 : Nat) (q1015_2 : Nat) (f1015_2 : (Nat → Int32)) (n1015_2 : Nat) (l1015_3 : Int32) (l1015_5 : Int32) (l1015_6 : Int32) (l1015_7 : Int32) (l1015_13 : Int32) (l1015_18 : Int32) (l1015_19 : Int32) (l1015_20 : Int32) (l1015_21 : Int32) (l1015_22 : Int32) (l1015_23 : Int32) (l1015_24 : Int32) (l1015_26 : Int32) (kc sc : Nat) (hkc : kc + 0 + 128 * n22 + 1 ≤ 600130) (hsc : sc + 0 + 8418 * n22 + 8 ≤ 7301080) (H : Heap) (locs : List Loc) (hP : va_P (dC, dI) vwCl ((wN cI cZ n0 h0 h3 h4 h5 h6 c0 c8 c9 c10 c11 c12 c13 t0 t8 t9 t10 t11 t12 t13 i0 i1 i2 i3 i4 m0 m1 m2 uH uC uT uI uM) ++ (wX5 cI cZ cJ g0 g7 g8 g9 g10 g11 g12 G9 G10 G11 G12 uG ++ [(q1015_0, .inl (cZ, n1015_0, .inl f1015_0)), (q1015_1, .inl (cI, n1015_1, .inl f1015_1)), (q1015_2, .inl (cZ, n1015_2, .inl f1015_2))])) H) (hD : va_D A ((wN cI cZ n0 h0 h3 h4 h5 h6 c0 c8 c9 c10 c11 c12 c13 t0 t8 t9 t10 t11 t12 t13 i0 i1 i2 i3 i4 m0 m1 m2 uH uC uT uI uM) ++ (wX5 cI cZ cJ g0 g7 g8 g9 g10 g11 g12 G9 G10 G11 G12 uG ++ [(q1015_0, .inl (cZ, n1015_0, .inl f1015_0)), (q1015_1, .inl (cI, n1015_1, .inl f1015_1)), (q1015_2, .inl (cZ, n1015_2, .inl f1015_2))]))) (hS : va_S A s.heap H locs) (ls : Array Slot) (hl : lv_has ls 27 [(0, .ref b), (1, .ref n0), (2, .ref g0), (3, .int l1015_3), (5, .int l1015_5), (6, .int l1015_6), (7, .int l1015_7), (11, .ref q1015_0), (13, .int l1015_13), (14, .ref q1015_1), (15, .ref q1015_2), (18, .int l1015_18), (19, .int l1015_19), (20, .int l1015_20), (21, .int l1015_21), (22, .int l1015_22), (23, .int l1015_23), (24, .int l1015_24), (26, .int l1015_26)]) (hok : p_L_law_J1015 xv Lc (p_L_law_L22 xv Lc n22) (p_L_law_L973 xv Lc (p_L_law_L22 xv Lc n22) n973) uH uC uT uI uM uG f1015_0 n1015_0 f1015_1 n1015_1 f1015_2 n1015_2 l1015_3 l1015_5 l1015_6 l1015_7 l1015_13 l1015_18 l1015_19 l1015_20 l1015_21 l1015_22 l1015_23 l1015_24 l1015_26 = some z), W p l e room_1 s m #[Value.ref b] below meth c H locs kc sc (lw_Z below #[Value.ref b] s) (F0 m 1015 ls []) := by
            intro g7 g8 g9 g10 g11 g12 G9 G10 G11 G12 uH uC uT uI uM uG q1015_0 f1015_0 n1015_0 q1015_1 f1015_1 n1015_1 q1015_2 f1015_2 n1015_2 l1015_3 l1015_5 l1015_6 l1015_7 l1015_13 l1015_18 l1015_19 l1015_20 l1015_21 l1015_22 l1015_23 l1015_24 l1015_26 kc sc hkc hsc H locs hP hD hS ls hl hok
            unfold p_L_law_J1015 at hok
            refine lv_iconst (v := (1 : Int32)) hx hb dL_law_1015 (by decide) ?_
            refine lv_goto (tgt := 1020) hx hb dL_law_1016 (by decide) ?_
            refine lv_istore (lv' := [(25, .int (1 : Int32)), (0, .ref b), (1, .ref n0), (2, .ref g0), (3, .int l1015_3), (5, .int l1015_5), (6, .int l1015_6), (7, .int l1015_7), (11, .ref q1015_0), (13, .int l1015_13), (14, .ref q1015_1), (15, .ref q1015_2), (18, .int l1015_18), (19, .int l1015_19), (20, .int l1015_20), (21, .int l1015_21), (22, .int l1015_22), (23, .int l1015_23), (24, .int l1015_24), (26, .int l1015_26)]) hx hb dL_law_1020 hl (by decide) rfl (fun ls hl => ?_)
            refine lv_iinc (v := (l1015_26 + 1)) (lv' := [(26, .int (l1015_26 + 1)), (25, .int (1 : Int32)), (0, .ref b), (1, .ref n0), (2, .ref g0), (3, .int l1015_3), (5, .int l1015_5), (6, .int l1015_6), (7, .int l1015_7), (11, .ref q1015_0), (13, .int l1015_13), (14, .ref q1015_1), (15, .ref q1015_2), (18, .int l1015_18), (19, .int l1015_19), (20, .int l1015_20), (21, .int l1015_21), (22, .int l1015_22), (23, .int l1015_23), (24, .int l1015_24)]) hx hb dL_law_1022 hl (k := 19) rfl rfl (by decide) rfl (fun ls hl => ?_)
            refine lv_goto (tgt := 973) hx hb dL_law_1025 (by decide) ?_
            exact ih973 g7 g8 g9 g10 g11 g12 G9 G10 G11 G12 uH uC uT uI uM uG q1015_0 f1015_0 n1015_0 q1015_1 f1015_1 n1015_1 q1015_2 f1015_2 n1015_2 l1015_3 l1015_5 l1015_6 l1015_7 l1015_13 l1015_18 l1015_19 l1015_20 l1015_21 l1015_22 l1015_23 l1015_24 (1 : Int32) (l1015_26 + 1) kc sc (by omega) (by omega) _ _ hP hD hS _ (lv_sub hl [2, 3, 4, 5, 6, 7, 8, 9, 10, 11, 12, 13, 14, 15, 16, 17, 18, 19, 1, 0] rfl) hok
          intro g7 g8 g9 g10 g11 g12 G9 G10 G11 G12 uH uC uT uI uM uG q973_0 f973_0 n973_0 q973_1 f973_1 n973_1 q973_2 f973_2 n973_2 l973_3 l973_5 l973_6 l973_7 l973_13 l973_18 l973_19 l973_20 l973_21 l973_22 l973_23 l973_24 l973_25 l973_26 kc sc hkc hsc H locs hP hD hS ls hl hok
          rw [p_L_law_L973] at hok
          refine lv_iload hx hb dL_law_973 (lv_at hl 19 rfl) ?_
          refine lv_iload hx hb dL_law_975 (lv_at hl 4 rfl) ?_
          refine lv_icmp_ge (tgt := 1028) hx hb dL_law_977 (by decide) (fun hc => ?_) (fun hc => ?_)
          · have hok := ip hok hc
            refine lv_iload hx hb dL_law_1028 (lv_at hl 16 rfl) ?_
            refine lv_iconst (v := (-1 : Int32)) hx hb dL_law_1030 (by decide) ?_
            refine lv_icmp_lt (tgt := 1141) hx hb dL_law_1031 (by decide) (fun hc => ?_) (fun hc => ?_)
            · have hok := ip hok hc
              refine lv_iconst (v := (0 : Int32)) hx hb dL_law_1141 (by decide) ?_
              cases hok
            · have hok := iq hok hc
              refine lv_iload hx hb dL_law_1034 (lv_at hl 16 rfl) ?_
              refine lv_iconst (v := (1 : Int32)) hx hb dL_law_1036 (by decide) ?_
              refine lv_icmp_gt (tgt := 1141) hx hb dL_law_1037 (by decide) (fun hc => ?_) (fun hc => ?_)
              · have hok := ip hok hc
                refine lv_iconst (v := (0 : Int32)) hx hb dL_law_1141 (by decide) ?_
                cases hok
              · have hok := iq hok hc
                refine lv_iload hx hb dL_law_1040 (lv_at hl 16 rfl) ?_
                refine lv_if_eq (tgt := 1063) hx hb dL_law_1042 (by decide) (fun hc => ?_) (fun hc => ?_)
                · have hok := ip hok hc
                  exact J1063 g7 g8 g9 g10 g11 g12 G9 G10 G11 G12 uH uC uT uI uM uG q973_0 f973_0 n973_0 q973_1 f973_1 n973_1 q973_2 f973_2 n973_2 l973_3 l973_6 l973_7 l973_13 l973_18 l973_19 l973_20 l973_21 l973_22 l973_23 l973_24 kc sc (by omega) (by omega) _ _ hP hD hS _ (lv_sub hl [0, 1, 2, 3, 5, 6, 7, 8, 9, 10, 11, 12, 13, 14, 15, 16, 17] rfl) hok
                · have hok := iq hok hc
                  refine lv_iload hx hb dL_law_1045 (lv_at hl 12 rfl) ?_
                  refine lv_if_gt (tgt := 1141) hx hb dL_law_1047 (by decide) (fun hc => ?_) (fun hc => ?_)
                  · have hok := ip hok hc
                    refine lv_iconst (v := (0 : Int32)) hx hb dL_law_1141 (by decide) ?_
                    cases hok
                  · have hok := iq hok hc
                    refine lv_iload hx hb dL_law_1050 (lv_at hl 18 rfl) ?_
                    refine lv_if_eq (tgt := 1141) hx hb dL_law_1052 (by decide) (fun hc => ?_) (fun hc => ?_)
                    · have hok := ip hok hc
                      refine lv_iconst (v := (0 : Int32)) hx hb dL_law_1141 (by decide) ?_
                      cases hok
                    · have hok := iq hok hc
                      refine lv_aload hx hb dL_law_1055 (lv_at hl 7 rfl) ?_
                      refine lv_iload hx hb dL_law_1057 (lv_at hl 11 rfl) ?_
                      obtain ⟨hi84, hok⟩ := gd_some hok
                      refine xlz hx hb hK hP 0 1 rfl rfl (j := l973_18.toNatClampNeg) rfl hi84 dL_law_1059 ?_
                      refine lv_if_ne (tgt := 1141) hx hb dL_law_1060 (by decide) (fun hc => ?_) (fun hc => ?_)
                      · have hok := iq hok hc
                        refine lv_iconst (v := (0 : Int32)) hx hb dL_law_1141 (by decide) ?_
                        cases hok
                      · have hok := ip hok hc
                        exact J1063 g7 g8 g9 g10 g11 g12 G9 G10 G11 G12 uH uC uT uI uM uG q973_0 f973_0 n973_0 q973_1 f973_1 n973_1 q973_2 f973_2 n973_2 l973_3 l973_6 l973_7 l973_13 l973_18 l973_19 l973_20 l973_21 l973_22 l973_23 l973_24 kc sc (by omega) (by omega) _ _ hP hD hS _ (lv_sub hl [0, 1, 2, 3, 5, 6, 7, 8, 9, 10, 11, 12, 13, 14, 15, 16, 17] rfl) hok
          · have hok := iq hok hc
            refine lv_iload hx hb dL_law_980 (lv_at hl 18 rfl) ?_
            refine lv_if_ne (tgt := 1015) hx hb dL_law_982 (by decide) (fun hc => ?_) (fun hc => ?_)
            · have hok := iq hok hc
              exact J1015 g7 g8 g9 g10 g11 g12 G9 G10 G11 G12 uH uC uT uI uM uG q973_0 f973_0 n973_0 q973_1 f973_1 n973_1 q973_2 f973_2 n973_2 l973_3 l973_5 l973_6 l973_7 l973_13 l973_18 l973_19 l973_20 l973_21 l973_22 l973_23 l973_24 l973_26 kc sc (by omega) (by omega) _ _ hP hD hS _ (lv_sub hl [0, 1, 2, 3, 4, 5, 6, 7, 8, 9, 10, 11, 12, 13, 14, 15, 16, 17, 19] rfl) hok
            · have hok := ip hok hc
              refine lv_aload hx hb dL_law_985 (lv_at hl 7 rfl) ?_
              refine lv_iload hx hb dL_law_987 (lv_at hl 19 rfl) ?_
              obtain ⟨hi85, hok⟩ := gd_some hok
              refine xlz hx hb hK hP 0 1 rfl rfl (j := l973_26.toNatClampNeg) rfl hi85 dL_law_989 ?_
              refine lv_if_eq (tgt := 1019) hx hb dL_law_990 (by decide) (fun hc => ?_) (fun hc => ?_)
              · have hok := ip hok hc
                exact J1019 g7 g8 g9 g10 g11 g12 G9 G10 G11 G12 uH uC uT uI uM uG q973_0 f973_0 n973_0 q973_1 f973_1 n973_1 q973_2 f973_2 n973_2 l973_3 l973_5 l973_6 l973_7 l973_13 l973_18 l973_19 l973_20 l973_21 l973_22 l973_23 l973_24 l973_26 kc sc (by omega) (by omega) _ _ hP hD hS _ (lv_sub hl [0, 1, 2, 3, 4, 5, 6, 7, 8, 9, 10, 11, 12, 13, 14, 15, 16, 17, 19] rfl) hok
              · have hok := iq hok hc
                refine lv_iload hx hb dL_law_993 (lv_at hl 16 rfl) ?_
                refine lv_if_le (tgt := 1008) hx hb dL_law_995 (by decide) (fun hc => ?_) (fun hc => ?_)
                · have hok := ip hok hc
                  refine lv_iload hx hb dL_law_1008 (lv_at hl 19 rfl) ?_
                  refine lv_iload hx hb dL_law_1010 (lv_at hl 11 rfl) ?_
                  refine lv_icmp_ge (tgt := 1019) hx hb dL_law_1012 (by decide) (fun hc => ?_) (fun hc => ?_)
                  · have hok := ip hok hc
                    exact J1019 g7 g8 g9 g10 g11 g12 G9 G10 G11 G12 uH uC uT uI uM uG q973_0 f973_0 n973_0 q973_1 f973_1 n973_1 q973_2 f973_2 n973_2 l973_3 l973_5 l973_6 l973_7 l973_13 l973_18 l973_19 l973_20 l973_21 l973_22 l973_23 l973_24 l973_26 kc sc (by omega) (by omega) _ _ hP hD hS _ (lv_sub hl [0, 1, 2, 3, 4, 5, 6, 7, 8, 9, 10, 11, 12, 13, 14, 15, 16, 17, 19] rfl) hok
                  · have hok := iq hok hc
                    exact J1015 g7 g8 g9 g10 g11 g12 G9 G10 G11 G12 uH uC uT uI uM uG q973_0 f973_0 n973_0 q973_1 f973_1 n973_1 q973_2 f973_2 n973_2 l973_3 l973_5 l973_6 l973_7 l973_13 l973_18 l973_19 l973_20 l973_21 l973_22 l973_23 l973_24 l973_26 kc sc (by omega) (by omega) _ _ hP hD hS _ (lv_sub hl [0, 1, 2, 3, 4, 5, 6, 7, 8, 9, 10, 11, 12, 13, 14, 15, 16, 17, 19] rfl) hok
                · have hok := iq hok hc
                  refine lv_iload hx hb dL_law_998 (lv_at hl 19 rfl) ?_
                  refine lv_iload hx hb dL_law_1000 (lv_at hl 11 rfl) ?_
                  refine lv_icmp_le (tgt := 1019) hx hb dL_law_1002 (by decide) (fun hc => ?_) (fun hc => ?_)
                  · have hok := ip hok hc
                    exact J1019 g7 g8 g9 g10 g11 g12 G9 G10 G11 G12 uH uC uT uI uM uG q973_0 f973_0 n973_0 q973_1 f973_1 n973_1 q973_2 f973_2 n973_2 l973_3 l973_5 l973_6 l973_7 l973_13 l973_18 l973_19 l973_20 l973_21 l973_22 l973_23 l973_24 l973_26 kc sc (by omega) (by omega) _ _ hP hD hS _ (lv_sub hl [0, 1, 2, 3, 4, 5, 6, 7, 8, 9, 10, 11, 12, 13, 14, 15, 16, 17, 19] rfl) hok
                  · have hok := iq hok hc
                    refine lv_goto (tgt := 1015) hx hb dL_law_1005 (by decide) ?_
                    exact J1015 g7 g8 g9 g10 g11 g12 G9 G10 G11 G12 uH uC uT uI uM uG q973_0 f973_0 n973_0 q973_1 f973_1 n973_1 q973_2 f973_2 n973_2 l973_3 l973_5 l973_6 l973_7 l973_13 l973_18 l973_19 l973_20 l973_21 l973_22 l973_23 l973_24 l973_26 kc sc (by omega) (by omega) _ _ hP hD hS _ (lv_sub hl [0, 1, 2, 3, 4, 5, 6, 7, 8, 9, 10, 11, 12, 13, 14, 15, 16, 17, 19] rfl) hok
      have L881 : ∀ n881 : Nat, ∀ (g7 : Nat) (g8 : Nat) (g9 : Nat) (g10 : Nat) (g11 : Nat) (g12 : Nat) (G9 : (Nat → Nat)) (G10 : (Nat → Nat)) (G11 : (Nat → Nat)) (G12 : (Nat → Nat)) (uH : tX1) (uC : tX0) (uT : tX0) (uI : tX2) (uM : tX3) (uG : tX5) (q881_0 : Nat) (f881_0 : (Nat → Int32)) (n881_0 : Nat) (q881_1 : Nat) (f881_1 : (Nat → Int32)) (n881_1 : Nat) (q881_2 : Nat) (f881_2 : (Nat → Int32)) (n881_2 : Nat) (q881_3 : Nat) (f881_3 : (Nat → Int32)) (n881_3 : Nat) (l881_3 : Int32) (l881_5 : Int32) (l881_6 : Int32) (l881_7 : Int32) (l881_13 : Int32) (l881_18 : Int32) (l881_19 : Int32) (l881_20 : Int32) (l881_21 : Int32) (l881_22 : Int32) (l881_23 : Int32) (l881_24 : Int32) (l881_25 : Int32) (kc sc : Nat) (hkc : kc + 0 + 128 * n22 + 1 ≤ 600130) (hsc : sc + 0 + 8418 * n22 + 8 ≤ 7301080) (H : Heap) (locs : List Loc) (hP : va_P (dC, dI) vwCl ((wN cI cZ n0 h0 h3 h4 h5 h6 c0 c8 c9 c10 c11 c12 c13 t0 t8 t9 t10 t11 t12 t13 i0 i1 i2 i3 i4 m0 m1 m2 uH uC uT uI uM) ++ (wX5 cI cZ cJ g0 g7 g8 g9 g10 g11 g12 G9 G10 G11 G12 uG ++ [(q881_0, .inl (cI, n881_0, .inl f881_0)), (q881_1, .inl (cZ, n881_1, .inl f881_1)), (q881_2, .inl (cI, n881_2, .inl f881_2)), (q881_3, .inl (cZ, n881_3, .inl f881_3))])) H) (hD : va_D A ((wN cI cZ n0 h0 h3 h4 h5 h6 c0 c8 c9 c10 c11 c12 c13 t0 t8 t9 t10 t11 t12 t13 i0 i1 i2 i3 i4 m0 m1 m2 uH uC uT uI uM) ++ (wX5 cI cZ cJ g0 g7 g8 g9 g10 g11 g12 G9 G10 G11 G12 uG ++ [(q881_0, .inl (cI, n881_0, .inl f881_0)), (q881_1, .inl (cZ, n881_1, .inl f881_1)), (q881_2, .inl (cI, n881_2, .inl f881_2)), (q881_3, .inl (cZ, n881_3, .inl f881_3))]))) (hS : va_S A s.heap H locs) (ls : Array Slot) (hl : lv_has ls 27 [(0, .ref b), (1, .ref n0), (2, .ref g0), (3, .int l881_3), (5, .int l881_5), (6, .int l881_6), (7, .int l881_7), (10, .ref q881_0), (11, .ref q881_1), (13, .int l881_13), (14, .ref q881_2), (15, .ref q881_3), (18, .int l881_18), (19, .int l881_19), (20, .int l881_20), (21, .int l881_21), (22, .int l881_22), (23, .int l881_23), (24, .int l881_24), (25, .int l881_25)]) (hok : p_L_law_L881 xv Lc (p_L_law_L22 xv Lc n22) n881 uH uC uT uI uM uG f881_0 n881_0 f881_1 n881_1 f881_2 n881_2 f881_3 n881_3 l881_3 l881_5 l881_6 l881_7 l881_13 l881_18 l881_19 l881_20 l881_21 l881_22 l881_23 l881_24 l881_25 = some z), W p l e room_1 s m #[Value.ref b] below meth c H locs kc sc (lw_Z below #[Value.ref b] s) (F0 m 881 ls []) := by
        intro n881
        induction n881 with
        | zero =>
          intro g7 g8 g9 g10 g11 g12 G9 G10 G11 G12 uH uC uT uI uM uG q881_0 f881_0 n881_0 q881_1 f881_1 n881_1 q881_2 f881_2 n881_2 q881_3 f881_3 n881_3 l881_3 l881_5 l881_6 l881_7 l881_13 l881_18 l881_19 l881_20 l881_21 l881_22 l881_23 l881_24 l881_25 kc sc hkc hsc H locs hP hD hS ls hl hok
          rw [p_L_law_L881] at hok
          cases hok
        | succ n881 ih881 =>
          have J936 : ∀ (g7 : Nat) (g8 : Nat) (g9 : Nat) (g10 : Nat) (g11 : Nat) (g12 : Nat) (G9 : (Nat → Nat)) (G10 : (Nat → Nat)) (G11 : (Nat → Nat)) (G12 : (Nat → Nat)) (uH : tX1) (uC : tX0) (uT : tX0) (uI : tX2) (uM : tX3) (uG : tX5) (q936_0 : Nat) (f936_0 : (Nat → Int32)) (n936_0 : Nat) (q936_1 : Nat) (f936_1 : (Nat → Int32)) (n936_1 : Nat) (q936_2 : Nat) (f936_2 : (Nat → Int32)) (n936_2 : Nat) (q936_3 : Nat) (f936_3 : (Nat → Int32)) (n936_3 : Nat) (l936_3 : Int32) (l936_5 : Int32) (l936_6 : Int32) (l936_7 : Int32) (l936_13 : Int32) (l936_18 : Int32) (l936_19 : Int32) (l936_20 : Int32) (l936_21 : Int32) (l936_22 : Int32) (l936_23 : Int32) (l936_24 : Int32) (l936_25 : Int32) (kc sc : Nat) (hkc : kc + 0 + 128 * n22 + 1 ≤ 600130) (hsc : sc + 0 + 8418 * n22 + 8 ≤ 7301080) (H : Heap) (locs : List Loc) (hP : va_P (dC, dI) vwCl ((wN cI cZ n0 h0 h3 h4 h5 h6 c0 c8 c9 c10 c11 c12 c13 t0 t8 t9 t10 t11 t12 t13 i0 i1 i2 i3 i4 m0 m1 m2 uH uC uT uI uM) ++ (wX5 cI cZ cJ g0 g7 g8 g9 g10 g11 g12 G9 G10 G11 G12 uG ++ [(q936_0, .inl (cI, n936_0, .inl f936_0)), (q936_1, .inl (cZ, n936_1, .inl f936_1)), (q936_2, .inl (cI, n936_2, .inl f936_2)), (q936_3, .inl (cZ, n936_3, .inl f936_3))])) H) (hD : va_D A ((wN cI cZ n0 h0 h3 h4 h5 h6 c0 c8 c9 c10 c11 c12 c13 t0 t8 t9 t10 t11 t12 t13 i0 i1 i2 i3 i4 m0 m1 m2 uH uC uT uI uM) ++ (wX5 cI cZ cJ g0 g7 g8 g9 g10 g11 g12 G9 G10 G11 G12 uG ++ [(q936_0, .inl (cI, n936_0, .inl f936_0)), (q936_1, .inl (cZ, n936_1, .inl f936_1)), (q936_2, .inl (cI, n936_2, .inl f936_2)), (q936_3, .inl (cZ, n936_3, .inl f936_3))]))) (hS : va_S A s.heap H locs) (ls : Array Slot) (hl : lv_has ls 27 [(0, .ref b), (1, .ref n0), (2, .ref g0), (3, .int l936_3), (5, .int l936_5), (6, .int l936_6), (7, .int l936_7), (10, .ref q936_0), (11, .ref q936_1), (13, .int l936_13), (14, .ref q936_2), (15, .ref q936_3), (18, .int l936_18), (19, .int l936_19), (20, .int l936_20), (21, .int l936_21), (22, .int l936_22), (23, .int l936_23), (24, .int l936_24), (25, .int l936_25)]) (hok : p_L_law_J936 xv Lc (p_L_law_L22 xv Lc n22) (p_L_law_L881 xv Lc (p_L_law_L22 xv Lc n22) n881) uH uC uT uI uM uG f936_0 n936_0 f936_1 n936_1 f936_2 n936_2 f936_3 n936_3 l936_3 l936_5 l936_6 l936_7 l936_13 l936_18 l936_19 l936_20 l936_21 l936_22 l936_23 l936_24 l936_25 = some z), W p l e room_1 s m #[Value.ref b] below meth c H locs kc sc (lw_Z below #[Value.ref b] s) (F0 m 936 ls []) := by
            intro g7 g8 g9 g10 g11 g12 G9 G10 G11 G12 uH uC uT uI uM uG q936_0 f936_0 n936_0 q936_1 f936_1 n936_1 q936_2 f936_2 n936_2 q936_3 f936_3 n936_3 l936_3 l936_5 l936_6 l936_7 l936_13 l936_18 l936_19 l936_20 l936_21 l936_22 l936_23 l936_24 l936_25 kc sc hkc hsc H locs hP hD hS ls hl hok
            unfold p_L_law_J936 at hok
            refine lv_aload_n hx hb dL_law_936 rfl (lv_at hl 1 rfl) ?_
            refine lv_iload hx hb dL_law_937 (lv_at hl 19 rfl) ?_
            obtain ⟨v90, hc90, hok⟩ := bd_some hok
            refine cRVi (ci := 4) (q0 := 0) [.int l936_25] S hK2 (va_Pmid (wa := []) hP) (c_X4_nextParagraph l dC dI cI cZ n0 h0 h3 h4 h5 h6 c0 c8 c9 c10 c11 c12 c13 t0 t8 t9 t10 t11 t12 t13 i0 i1 i2 i3 i4 m0 m1 m2 uH uC uT uI uM l936_25 hc90) (lw_V qm_L_116 qi_X4_nextParagraph qs_X4_nextParagraph qn_X4 qc_X4_nextParagraph) hd_X4_nextParagraph ⟨rfl, rfl⟩ ⟨Nat.le_of_ble_eq_true rfl, Nat.le_of_ble_eq_true rfl⟩ ⟨by show kc ≤ 600130; omega, by show sc ≤ 7301080; omega⟩ rfl rfl rfl hl.1 (Nat.le_of_ble_eq_true rfl) rfl dL_law_939 ?_
            refine lv_aload hx hb dL_law_942 (lv_at hl 7 rfl) ?_
            refine lv_iload hx hb dL_law_944 (lv_at hl 19 rfl) ?_
            obtain ⟨hi91, hok⟩ := gd_some hok
            refine xl hx hb hK hP 0 0 rfl rfl (j := l936_25.toNatClampNeg) rfl hi91 dL_law_946 ?_
            refine lv_icmp_eq (tgt := 961) hx hb dL_law_947 (by decide) (fun hc => ?_) (fun hc => ?_)
            · have hok := ip hok hc
              refine lv_iinc (v := (l936_25 + 1)) (lv' := [(25, .int (l936_25 + 1)), (0, .ref b), (1, .ref n0), (2, .ref g0), (3, .int l936_3), (5, .int l936_5), (6, .int l936_6), (7, .int l936_7), (10, .ref q936_0), (11, .ref q936_1), (13, .int l936_13), (14, .ref q936_2), (15, .ref q936_3), (18, .int l936_18), (19, .int l936_19), (20, .int l936_20), (21, .int l936_21), (22, .int l936_22), (23, .int l936_23), (24, .int l936_24)]) hx hb dL_law_961 hl (k := 19) rfl rfl (by decide) rfl (fun ls hl => ?_)
              refine lv_goto (tgt := 881) hx hb dL_law_964 (by decide) ?_
              exact ih881 g7 g8 g9 g10 g11 g12 G9 G10 G11 G12 uH uC uT uI uM uG q936_0 f936_0 n936_0 q936_1 f936_1 n936_1 q936_2 f936_2 n936_2 q936_3 f936_3 n936_3 l936_3 l936_5 l936_6 l936_7 l936_13 l936_18 l936_19 l936_20 l936_21 l936_22 l936_23 l936_24 (l936_25 + 1) kc sc (by omega) (by omega) _ _ hP hD hS _ (lv_sub hl [1, 2, 3, 4, 5, 6, 7, 8, 9, 10, 11, 12, 13, 14, 15, 16, 17, 18, 19, 0] rfl) hok
            · have hok := iq hok hc
              refine lv_iload hx hb dL_law_950 (lv_at hl 19 rfl) ?_
              refine lv_aload_n hx hb dL_law_952 rfl (lv_at hl 1 rfl) ?_
              obtain ⟨v92, hc92, hok⟩ := bd_some hok
              refine cRVi (ci := 4) (q0 := 0) [] S hK2 (va_Pmid (wa := []) hP) (c_X4_liftAt l dC dI cI cZ n0 h0 h3 h4 h5 h6 c0 c8 c9 c10 c11 c12 c13 t0 t8 t9 t10 t11 t12 t13 i0 i1 i2 i3 i4 m0 m1 m2 uH uC uT uI uM hc92) (lw_V qm_L_134 qi_X4_liftAt qs_X4_liftAt qn_X4 qc_X4_liftAt) hd_X4_liftAt ⟨rfl, rfl⟩ ⟨Nat.le_of_ble_eq_true rfl, Nat.le_of_ble_eq_true rfl⟩ ⟨by show kc ≤ 600130; omega, by show sc ≤ 7301080; omega⟩ rfl rfl rfl hl.1 (Nat.le_of_ble_eq_true rfl) rfl dL_law_953 ?_
              refine lv_icmp_eq (tgt := 961) hx hb dL_law_956 (by decide) (fun hc => ?_) (fun hc => ?_)
              · have hok := ip hok hc
                refine lv_iinc (v := (l936_25 + 1)) (lv' := [(25, .int (l936_25 + 1)), (0, .ref b), (1, .ref n0), (2, .ref g0), (3, .int l936_3), (5, .int l936_5), (6, .int l936_6), (7, .int l936_7), (10, .ref q936_0), (11, .ref q936_1), (13, .int l936_13), (14, .ref q936_2), (15, .ref q936_3), (18, .int l936_18), (19, .int l936_19), (20, .int l936_20), (21, .int l936_21), (22, .int l936_22), (23, .int l936_23), (24, .int l936_24)]) hx hb dL_law_961 hl (k := 19) rfl rfl (by decide) rfl (fun ls hl => ?_)
                refine lv_goto (tgt := 881) hx hb dL_law_964 (by decide) ?_
                exact ih881 g7 g8 g9 g10 g11 g12 G9 G10 G11 G12 uH uC uT uI uM uG q936_0 f936_0 n936_0 q936_1 f936_1 n936_1 q936_2 f936_2 n936_2 q936_3 f936_3 n936_3 l936_3 l936_5 l936_6 l936_7 l936_13 l936_18 l936_19 l936_20 l936_21 l936_22 l936_23 l936_24 (l936_25 + 1) kc sc (by omega) (by omega) _ _ hP hD hS _ (lv_sub hl [1, 2, 3, 4, 5, 6, 7, 8, 9, 10, 11, 12, 13, 14, 15, 16, 17, 18, 19, 0] rfl) hok
              · have hok := iq hok hc
                refine lv_iconst (v := (0 : Int32)) hx hb dL_law_959 (by decide) ?_
                cases hok
          have J905 : ∀ (g7 : Nat) (g8 : Nat) (g9 : Nat) (g10 : Nat) (g11 : Nat) (g12 : Nat) (G9 : (Nat → Nat)) (G10 : (Nat → Nat)) (G11 : (Nat → Nat)) (G12 : (Nat → Nat)) (uH : tX1) (uC : tX0) (uT : tX0) (uI : tX2) (uM : tX3) (uG : tX5) (q905_0 : Nat) (f905_0 : (Nat → Int32)) (n905_0 : Nat) (q905_1 : Nat) (f905_1 : (Nat → Int32)) (n905_1 : Nat) (q905_2 : Nat) (f905_2 : (Nat → Int32)) (n905_2 : Nat) (q905_3 : Nat) (f905_3 : (Nat → Int32)) (n905_3 : Nat) (l905_3 : Int32) (l905_5 : Int32) (l905_6 : Int32) (l905_7 : Int32) (l905_13 : Int32) (l905_18 : Int32) (l905_19 : Int32) (l905_20 : Int32) (l905_21 : Int32) (l905_22 : Int32) (l905_23 : Int32) (l905_24 : Int32) (l905_25 : Int32) (kc sc : Nat) (hkc : kc + 0 + 128 * n22 + 1 ≤ 600130) (hsc : sc + 0 + 8418 * n22 + 8 ≤ 7301080) (H : Heap) (locs : List Loc) (hP : va_P (dC, dI) vwCl ((wN cI cZ n0 h0 h3 h4 h5 h6 c0 c8 c9 c10 c11 c12 c13 t0 t8 t9 t10 t11 t12 t13 i0 i1 i2 i3 i4 m0 m1 m2 uH uC uT uI uM) ++ (wX5 cI cZ cJ g0 g7 g8 g9 g10 g11 g12 G9 G10 G11 G12 uG ++ [(q905_0, .inl (cI, n905_0, .inl f905_0)), (q905_1, .inl (cZ, n905_1, .inl f905_1)), (q905_2, .inl (cI, n905_2, .inl f905_2)), (q905_3, .inl (cZ, n905_3, .inl f905_3))])) H) (hD : va_D A ((wN cI cZ n0 h0 h3 h4 h5 h6 c0 c8 c9 c10 c11 c12 c13 t0 t8 t9 t10 t11 t12 t13 i0 i1 i2 i3 i4 m0 m1 m2 uH uC uT uI uM) ++ (wX5 cI cZ cJ g0 g7 g8 g9 g10 g11 g12 G9 G10 G11 G12 uG ++ [(q905_0, .inl (cI, n905_0, .inl f905_0)), (q905_1, .inl (cZ, n905_1, .inl f905_1)), (q905_2, .inl (cI, n905_2, .inl f905_2)), (q905_3, .inl (cZ, n905_3, .inl f905_3))]))) (hS : va_S A s.heap H locs) (ls : Array Slot) (hl : lv_has ls 27 [(0, .ref b), (1, .ref n0), (2, .ref g0), (3, .int l905_3), (5, .int l905_5), (6, .int l905_6), (7, .int l905_7), (10, .ref q905_0), (11, .ref q905_1), (13, .int l905_13), (14, .ref q905_2), (15, .ref q905_3), (18, .int l905_18), (19, .int l905_19), (20, .int l905_20), (21, .int l905_21), (22, .int l905_22), (23, .int l905_23), (24, .int l905_24), (25, .int l905_25)]) (hok : p_L_law_J905 xv Lc (p_L_law_L22 xv Lc n22) (p_L_law_L881 xv Lc (p_L_law_L22 xv Lc n22) n881) uH uC uT uI uM uG f905_0 n905_0 f905_1 n905_1 f905_2 n905_2 f905_3 n905_3 l905_3 l905_5 l905_6 l905_7 l905_13 l905_18 l905_19 l905_20 l905_21 l905_22 l905_23 l905_24 l905_25 = some z), W p l e room_1 s m #[Value.ref b] below meth c H locs kc sc (lw_Z below #[Value.ref b] s) (F0 m 905 ls []) := by
            intro g7 g8 g9 g10 g11 g12 G9 G10 G11 G12 uH uC uT uI uM uG q905_0 f905_0 n905_0 q905_1 f905_1 n905_1 q905_2 f905_2 n905_2 q905_3 f905_3 n905_3 l905_3 l905_5 l905_6 l905_7 l905_13 l905_18 l905_19 l905_20 l905_21 l905_22 l905_23 l905_24 l905_25 kc sc hkc hsc H locs hP hD hS ls hl hok
            unfold p_L_law_J905 at hok
            refine lv_aload hx hb dL_law_905 (lv_at hl 8 rfl) ?_
            refine lv_iload hx hb dL_law_907 (lv_at hl 19 rfl) ?_
            obtain ⟨hi86, hok⟩ := gd_some hok
            refine xlz hx hb hK hP 1 1 rfl rfl (j := l905_25.toNatClampNeg) rfl hi86 dL_law_909 ?_
            refine lv_aload_n hx hb dL_law_910 rfl (lv_at hl 1 rfl) ?_
            refine lv_iload hx hb dL_law_911 (lv_at hl 19 rfl) ?_
            obtain ⟨v87, hc87, hok⟩ := bd_some hok
            refine cRVi (ci := 4) (q0 := 0) [.int l905_25] S hK2 (va_Pmid (wa := []) hP) (c_X4_isCalled l dC dI cI cZ n0 h0 h3 h4 h5 h6 c0 c8 c9 c10 c11 c12 c13 t0 t8 t9 t10 t11 t12 t13 i0 i1 i2 i3 i4 m0 m1 m2 uH uC uT uI uM l905_25 hc87) (lw_V qm_L_119 qi_X4_isCalled qs_X4_isCalled qn_X4 qc_X4_isCalled) hd_X4_isCalled ⟨rfl, rfl⟩ ⟨Nat.le_of_ble_eq_true rfl, Nat.le_of_ble_eq_true rfl⟩ ⟨by show kc ≤ 600130; omega, by show sc ≤ 7301080; omega⟩ rfl rfl rfl hl.1 (Nat.le_of_ble_eq_true rfl) rfl dL_law_913 ?_
            refine lv_icmp_eq (tgt := 936) hx hb dL_law_916 (by decide) (fun hc => ?_) (fun hc => ?_)
            · have hok := ip hok hc
              exact J936 g7 g8 g9 g10 g11 g12 G9 G10 G11 G12 uH uC uT uI uM uG q905_0 f905_0 n905_0 q905_1 f905_1 n905_1 q905_2 f905_2 n905_2 q905_3 f905_3 n905_3 l905_3 l905_5 l905_6 l905_7 l905_13 l905_18 l905_19 l905_20 l905_21 l905_22 l905_23 l905_24 l905_25 kc sc (by omega) (by omega) _ _ hP hD hS _ hl hok
            · have hok := iq hok hc
              refine lv_iload hx hb dL_law_919 (lv_at hl 19 rfl) ?_
              refine lv_aload_n hx hb dL_law_921 rfl (lv_at hl 1 rfl) ?_
              obtain ⟨v88, hc88, hok⟩ := bd_some hok
              refine cRVi (ci := 4) (q0 := 0) [] S hK2 (va_Pmid (wa := []) hP) (c_X4_liftAt l dC dI cI cZ n0 h0 h3 h4 h5 h6 c0 c8 c9 c10 c11 c12 c13 t0 t8 t9 t10 t11 t12 t13 i0 i1 i2 i3 i4 m0 m1 m2 uH uC uT uI uM hc88) (lw_V qm_L_134 qi_X4_liftAt qs_X4_liftAt qn_X4 qc_X4_liftAt) hd_X4_liftAt ⟨rfl, rfl⟩ ⟨Nat.le_of_ble_eq_true rfl, Nat.le_of_ble_eq_true rfl⟩ ⟨by show kc ≤ 600130; omega, by show sc ≤ 7301080; omega⟩ rfl rfl rfl hl.1 (Nat.le_of_ble_eq_true rfl) rfl dL_law_922 ?_
              refine lv_icmp_ne (tgt := 959) hx hb dL_law_925 (by decide) (fun hc => ?_) (fun hc => ?_)
              · have hok := iq hok hc
                refine lv_iconst (v := (0 : Int32)) hx hb dL_law_959 (by decide) ?_
                cases hok
              · have hok := ip hok hc
                refine lv_aload hx hb dL_law_928 (lv_at hl 8 rfl) ?_
                refine lv_iload hx hb dL_law_930 (lv_at hl 19 rfl) ?_
                refine xlz hx hb hK hP 1 1 rfl rfl (j := l905_25.toNatClampNeg) rfl hi86 dL_law_932 ?_
                refine lv_if_eq (tgt := 959) hx hb dL_law_933 (by decide) (fun hc => ?_) (fun hc => ?_)
                · have hok := ip hok hc
                  refine lv_iconst (v := (0 : Int32)) hx hb dL_law_959 (by decide) ?_
                  cases hok
                · have hok := iq hok hc
                  exact J936 g7 g8 g9 g10 g11 g12 G9 G10 G11 G12 uH uC uT uI uM uG q905_0 f905_0 n905_0 q905_1 f905_1 n905_1 q905_2 f905_2 n905_2 q905_3 f905_3 n905_3 l905_3 l905_5 l905_6 l905_7 l905_13 l905_18 l905_19 l905_20 l905_21 l905_22 l905_23 l905_24 l905_25 kc sc (by omega) (by omega) _ _ hP hD hS _ hl hok
          intro g7 g8 g9 g10 g11 g12 G9 G10 G11 G12 uH uC uT uI uM uG q881_0 f881_0 n881_0 q881_1 f881_1 n881_1 q881_2 f881_2 n881_2 q881_3 f881_3 n881_3 l881_3 l881_5 l881_6 l881_7 l881_13 l881_18 l881_19 l881_20 l881_21 l881_22 l881_23 l881_24 l881_25 kc sc hkc hsc H locs hP hD hS ls hl hok
          rw [p_L_law_L881] at hok
          refine lv_iload hx hb dL_law_881 (lv_at hl 19 rfl) ?_
          refine lv_iload hx hb dL_law_883 (lv_at hl 4 rfl) ?_
          refine lv_icmp_ge (tgt := 967) hx hb dL_law_885 (by decide) (fun hc => ?_) (fun hc => ?_)
          · have hok := ip hok hc
            refine lv_iconst (v := (0 : Int32)) hx hb dL_law_967 (by decide) ?_
            refine lv_istore (lv' := [(25, .int (0 : Int32)), (0, .ref b), (1, .ref n0), (2, .ref g0), (3, .int l881_3), (5, .int l881_5), (6, .int l881_6), (7, .int l881_7), (10, .ref q881_0), (11, .ref q881_1), (13, .int l881_13), (14, .ref q881_2), (15, .ref q881_3), (18, .int l881_18), (19, .int l881_19), (20, .int l881_20), (21, .int l881_21), (22, .int l881_22), (23, .int l881_23), (24, .int l881_24)]) hx hb dL_law_968 hl (by decide) rfl (fun ls hl => ?_)
            refine lv_iconst (v := (0 : Int32)) hx hb dL_law_970 (by decide) ?_
            refine lv_istore (lv' := [(26, .int (0 : Int32)), (25, .int (0 : Int32)), (0, .ref b), (1, .ref n0), (2, .ref g0), (3, .int l881_3), (5, .int l881_5), (6, .int l881_6), (7, .int l881_7), (10, .ref q881_0), (11, .ref q881_1), (13, .int l881_13), (14, .ref q881_2), (15, .ref q881_3), (18, .int l881_18), (19, .int l881_19), (20, .int l881_20), (21, .int l881_21), (22, .int l881_22), (23, .int l881_23), (24, .int l881_24)]) hx hb dL_law_971 hl (by decide) rfl (fun ls hl => ?_)
            have hP := dx_P (ex' := [(q881_1, .inl (cZ, n881_1, .inl f881_1)), (q881_2, .inl (cI, n881_2, .inl f881_2)), (q881_3, .inl (cZ, n881_3, .inl f881_3))]) [1, 2, 3] rfl hP
            have hD := dx_D (ex' := [(q881_1, .inl (cZ, n881_1, .inl f881_1)), (q881_2, .inl (cI, n881_2, .inl f881_2)), (q881_3, .inl (cZ, n881_3, .inl f881_3))]) [1, 2, 3] (by decide) rfl hD
            exact L973 200 g7 g8 g9 g10 g11 g12 G9 G10 G11 G12 uH uC uT uI uM uG q881_1 f881_1 n881_1 q881_2 f881_2 n881_2 q881_3 f881_3 n881_3 l881_3 l881_5 l881_6 l881_7 l881_13 l881_18 l881_19 l881_20 l881_21 l881_22 l881_23 l881_24 (0 : Int32) (0 : Int32) kc sc (by omega) (by omega) _ _ hP hD hS _ (lv_sub hl [2, 3, 4, 5, 6, 7, 8, 10, 11, 12, 13, 14, 15, 16, 17, 18, 19, 20, 1, 0] rfl) hok
          · have hok := iq hok hc
            refine lv_aload hx hb dL_law_888 (lv_at hl 8 rfl) ?_
            refine lv_iload hx hb dL_law_890 (lv_at hl 19 rfl) ?_
            obtain ⟨hi82, hok⟩ := gd_some hok
            refine xlz hx hb hK hP 1 1 rfl rfl (j := l881_25.toNatClampNeg) rfl hi82 dL_law_892 ?_
            refine lv_aload_n hx hb dL_law_893 rfl (lv_at hl 1 rfl) ?_
            refine lv_iload hx hb dL_law_894 (lv_at hl 19 rfl) ?_
            obtain ⟨v83, hc83, hok⟩ := bd_some hok
            refine cRVi (ci := 4) (q0 := 0) [.int l881_25] S hK2 (va_Pmid (wa := []) hP) (c_X4_isCalled l dC dI cI cZ n0 h0 h3 h4 h5 h6 c0 c8 c9 c10 c11 c12 c13 t0 t8 t9 t10 t11 t12 t13 i0 i1 i2 i3 i4 m0 m1 m2 uH uC uT uI uM l881_25 hc83) (lw_V qm_L_119 qi_X4_isCalled qs_X4_isCalled qn_X4 qc_X4_isCalled) hd_X4_isCalled ⟨rfl, rfl⟩ ⟨Nat.le_of_ble_eq_true rfl, Nat.le_of_ble_eq_true rfl⟩ ⟨by show kc ≤ 600130; omega, by show sc ≤ 7301080; omega⟩ rfl rfl rfl hl.1 (Nat.le_of_ble_eq_true rfl) rfl dL_law_896 ?_
            refine lv_icmp_eq (tgt := 905) hx hb dL_law_899 (by decide) (fun hc => ?_) (fun hc => ?_)
            · have hok := ip hok hc
              exact J905 g7 g8 g9 g10 g11 g12 G9 G10 G11 G12 uH uC uT uI uM uG q881_0 f881_0 n881_0 q881_1 f881_1 n881_1 q881_2 f881_2 n881_2 q881_3 f881_3 n881_3 l881_3 l881_5 l881_6 l881_7 l881_13 l881_18 l881_19 l881_20 l881_21 l881_22 l881_23 l881_24 l881_25 kc sc (by omega) (by omega) _ _ hP hD hS _ hl hok
            · have hok := iq hok hc
              refine lv_iinc (v := (l881_24 + 1)) (lv' := [(24, .int (l881_24 + 1)), (0, .ref b), (1, .ref n0), (2, .ref g0), (3, .int l881_3), (5, .int l881_5), (6, .int l881_6), (7, .int l881_7), (10, .ref q881_0), (11, .ref q881_1), (13, .int l881_13), (14, .ref q881_2), (15, .ref q881_3), (18, .int l881_18), (19, .int l881_19), (20, .int l881_20), (21, .int l881_21), (22, .int l881_22), (23, .int l881_23), (25, .int l881_25)]) hx hb dL_law_902 hl (k := 18) rfl rfl (by decide) rfl (fun ls hl => ?_)
              exact J905 g7 g8 g9 g10 g11 g12 G9 G10 G11 G12 uH uC uT uI uM uG q881_0 f881_0 n881_0 q881_1 f881_1 n881_1 q881_2 f881_2 n881_2 q881_3 f881_3 n881_3 l881_3 l881_5 l881_6 l881_7 l881_13 l881_18 l881_19 l881_20 l881_21 l881_22 l881_23 (l881_24 + 1) l881_25 kc sc (by omega) (by omega) _ _ hP hD hS _ (lv_sub hl [1, 2, 3, 4, 5, 6, 7, 8, 9, 10, 11, 12, 13, 14, 15, 16, 17, 18, 0, 19] rfl) hok
      have J825 : ∀ (g7 : Nat) (g8 : Nat) (g9 : Nat) (g10 : Nat) (g11 : Nat) (g12 : Nat) (G9 : (Nat → Nat)) (G10 : (Nat → Nat)) (G11 : (Nat → Nat)) (G12 : (Nat → Nat)) (uH : tX1) (uC : tX0) (uT : tX0) (uI : tX2) (uM : tX3) (uG : tX5) (q825_0 : Nat) (f825_0 : (Nat → Int32)) (n825_0 : Nat) (q825_1 : Nat) (f825_1 : (Nat → Int32)) (n825_1 : Nat) (q825_2 : Nat) (f825_2 : (Nat → Int32)) (n825_2 : Nat) (q825_3 : Nat) (f825_3 : (Nat → Int32)) (n825_3 : Nat) (l825_3 : Int32) (l825_5 : Int32) (l825_6 : Int32) (l825_7 : Int32) (l825_13 : Int32) (s825_0 : UInt64) (s825_1 : UInt64) (kc sc : Nat) (hkc : kc + 2 + 128 * n22 + 1 ≤ 600130) (hsc : sc + 135 + 8418 * n22 + 8 ≤ 7301080) (H : Heap) (locs : List Loc) (hP : va_P (dC, dI) vwCl ((wN cI cZ n0 h0 h3 h4 h5 h6 c0 c8 c9 c10 c11 c12 c13 t0 t8 t9 t10 t11 t12 t13 i0 i1 i2 i3 i4 m0 m1 m2 uH uC uT uI uM) ++ (wX5 cI cZ cJ g0 g7 g8 g9 g10 g11 g12 G9 G10 G11 G12 uG ++ [(q825_0, .inl (cI, n825_0, .inl f825_0)), (q825_1, .inl (cZ, n825_1, .inl f825_1)), (q825_2, .inl (cI, n825_2, .inl f825_2)), (q825_3, .inl (cZ, n825_3, .inl f825_3))])) H) (hD : va_D A ((wN cI cZ n0 h0 h3 h4 h5 h6 c0 c8 c9 c10 c11 c12 c13 t0 t8 t9 t10 t11 t12 t13 i0 i1 i2 i3 i4 m0 m1 m2 uH uC uT uI uM) ++ (wX5 cI cZ cJ g0 g7 g8 g9 g10 g11 g12 G9 G10 G11 G12 uG ++ [(q825_0, .inl (cI, n825_0, .inl f825_0)), (q825_1, .inl (cZ, n825_1, .inl f825_1)), (q825_2, .inl (cI, n825_2, .inl f825_2)), (q825_3, .inl (cZ, n825_3, .inl f825_3))]))) (hS : va_S A s.heap H locs) (ls : Array Slot) (hl : lv_has ls 27 [(0, .ref b), (1, .ref n0), (2, .ref g0), (3, .int l825_3), (5, .int l825_5), (6, .int l825_6), (7, .int l825_7), (10, .ref q825_0), (11, .ref q825_1), (13, .int l825_13), (14, .ref q825_2), (15, .ref q825_3)]) (hok : p_L_law_J825 xv Lc (p_L_law_L22 xv Lc n22) uH uC uT uI uM uG f825_0 n825_0 f825_1 n825_1 f825_2 n825_2 f825_3 n825_3 l825_3 l825_5 l825_6 l825_7 l825_13 s825_0 s825_1 = some z), W p l e room_1 s m #[Value.ref b] below meth c H locs kc sc (lw_Z below #[Value.ref b] s) (F0 m 825 ls [.double s825_0, .double s825_1]) := by
        intro g7 g8 g9 g10 g11 g12 G9 G10 G11 G12 uH uC uT uI uM uG q825_0 f825_0 n825_0 q825_1 f825_1 n825_1 q825_2 f825_2 n825_2 q825_3 f825_3 n825_3 l825_3 l825_5 l825_6 l825_7 l825_13 s825_0 s825_1 kc sc hkc hsc H locs hP hD hS ls hl hok
        unfold p_L_law_J825 at hok
        refine lv_dcmp hx hb dL_law_825 ?_
        refine lv_if_eq (tgt := 831) hx hb dL_law_826 (by decide) (fun hc => ?_) (fun hc => ?_)
        · have hok := ip hok hc
          refine lv_aload_n hx hb dL_law_831 rfl (lv_at hl 1 rfl) ?_
          obtain ⟨v74, hc74, hok⟩ := bd_some hok
          refine cRVi (ci := 4) (q0 := 0) [] S hK2 (va_Pmid (wa := []) hP) (c_X4_liftAt l dC dI cI cZ n0 h0 h3 h4 h5 h6 c0 c8 c9 c10 c11 c12 c13 t0 t8 t9 t10 t11 t12 t13 i0 i1 i2 i3 i4 m0 m1 m2 uH uC uT uI uM hc74) (lw_V qm_L_134 qi_X4_liftAt qs_X4_liftAt qn_X4 qc_X4_liftAt) hd_X4_liftAt ⟨rfl, rfl⟩ ⟨Nat.le_of_ble_eq_true rfl, Nat.le_of_ble_eq_true rfl⟩ ⟨by show kc ≤ 600130; omega, by show sc ≤ 7301080; omega⟩ rfl rfl rfl hl.1 (Nat.le_of_ble_eq_true rfl) rfl dL_law_832 ?_
          refine lv_istore (lv' := [(18, .int v74), (0, .ref b), (1, .ref n0), (2, .ref g0), (3, .int l825_3), (5, .int l825_5), (6, .int l825_6), (7, .int l825_7), (10, .ref q825_0), (11, .ref q825_1), (13, .int l825_13), (14, .ref q825_2), (15, .ref q825_3)]) hx hb dL_law_835 hl (by decide) rfl (fun ls hl => ?_)
          refine lv_aload_n hx hb dL_law_837 rfl (lv_at hl 2 rfl) ?_
          obtain ⟨v75, hc75, hok⟩ := bd_some hok
          refine cRVi (ci := 4) (q0 := 0) [] S hK2 (va_Pmid (wa := []) hP) (c_X4_stuckFor l dC dI cI cZ n0 h0 h3 h4 h5 h6 c0 c8 c9 c10 c11 c12 c13 t0 t8 t9 t10 t11 t12 t13 i0 i1 i2 i3 i4 m0 m1 m2 uH uC uT uI uM hc75) (lw_V qm_L_196 qi_X4_stuckFor qs_X4_stuckFor qn_X4 qc_X4_stuckFor) hd_X4_stuckFor ⟨rfl, rfl⟩ ⟨Nat.le_of_ble_eq_true rfl, Nat.le_of_ble_eq_true rfl⟩ ⟨by show kc ≤ 600130; omega, by show sc ≤ 7301080; omega⟩ rfl rfl rfl hl.1 (Nat.le_of_ble_eq_true rfl) rfl dL_law_838 ?_
          refine lv_istore (lv' := [(19, .int v75), (18, .int v74), (0, .ref b), (1, .ref n0), (2, .ref g0), (3, .int l825_3), (5, .int l825_5), (6, .int l825_6), (7, .int l825_7), (10, .ref q825_0), (11, .ref q825_1), (13, .int l825_13), (14, .ref q825_2), (15, .ref q825_3)]) hx hb dL_law_841 hl (by decide) rfl (fun ls hl => ?_)
          refine lv_aload_n hx hb dL_law_843 rfl (lv_at hl 3 rfl) ?_
          obtain ⟨v76, hc76, hok⟩ := bd_some hok
          refine cRVi (ci := 4) (q0 := 0) [] S hK2 (va_Pmid (wa := []) hP) (c_X4_suspense l dC dI cI cZ n0 h0 h3 h4 h5 h6 c0 c8 c9 c10 c11 c12 c13 t0 t8 t9 t10 t11 t12 t13 i0 i1 i2 i3 i4 m0 m1 m2 uH uC uT uI uM hc76) (lw_V qm_L_142 qi_X4_suspense qs_X4_suspense qn_X4 qc_X4_suspense) hd_X4_suspense ⟨rfl, rfl⟩ ⟨Nat.le_of_ble_eq_true rfl, Nat.le_of_ble_eq_true rfl⟩ ⟨by show kc ≤ 600130; omega, by show sc ≤ 7301080; omega⟩ rfl rfl rfl hl.1 (Nat.le_of_ble_eq_true rfl) rfl dL_law_844 ?_
          refine lv_istore (lv' := [(20, .int v76), (19, .int v75), (18, .int v74), (0, .ref b), (1, .ref n0), (2, .ref g0), (3, .int l825_3), (5, .int l825_5), (6, .int l825_6), (7, .int l825_7), (10, .ref q825_0), (11, .ref q825_1), (13, .int l825_13), (14, .ref q825_2), (15, .ref q825_3)]) hx hb dL_law_847 hl (by decide) rfl (fun ls hl => ?_)
          refine lv_aload_n hx hb dL_law_849 rfl (lv_at hl 4 rfl) ?_
          obtain ⟨v77, hc77, hok⟩ := bd_some hok
          refine cRVi (ci := 4) (q0 := 0) [] S hK2 (va_Pmid (wa := []) hP) (c_X4_cuts l dC dI cI cZ n0 h0 h3 h4 h5 h6 c0 c8 c9 c10 c11 c12 c13 t0 t8 t9 t10 t11 t12 t13 i0 i1 i2 i3 i4 m0 m1 m2 uH uC uT uI uM hc77) (lw_V qm_L_131 qi_X4_cuts qs_X4_cuts qn_X4 qc_X4_cuts) hd_X4_cuts ⟨rfl, rfl⟩ ⟨Nat.le_of_ble_eq_true rfl, Nat.le_of_ble_eq_true rfl⟩ ⟨by show kc ≤ 600130; omega, by show sc ≤ 7301080; omega⟩ rfl rfl rfl hl.1 (Nat.le_of_ble_eq_true rfl) rfl dL_law_850 ?_
          refine lv_istore (lv' := [(21, .int v77), (20, .int v76), (19, .int v75), (18, .int v74), (0, .ref b), (1, .ref n0), (2, .ref g0), (3, .int l825_3), (5, .int l825_5), (6, .int l825_6), (7, .int l825_7), (10, .ref q825_0), (11, .ref q825_1), (13, .int l825_13), (14, .ref q825_2), (15, .ref q825_3)]) hx hb dL_law_853 hl (by decide) rfl (fun ls hl => ?_)
          refine lv_aload_n hx hb dL_law_855 rfl (lv_at hl 5 rfl) ?_
          refine lv_iconst (v := (1 : Int32)) hx hb dL_law_856 (by decide) ?_
          obtain ⟨v78, hc78, hok⟩ := bd_some hok
          refine cUVi (ci := 4) (q0 := 0) [.int (1 : Int32)] S hK2 (va_Pmid (wa := []) hP) (va_Dmid (wa := []) hD) hS hA (c_X4_passHours l dC dI cI cZ n0 h0 h3 h4 h5 h6 c0 c8 c9 c10 c11 c12 c13 t0 t8 t9 t10 t11 t12 t13 i0 i1 i2 i3 i4 m0 m1 m2 _ uH uC uT uI uM (1 : Int32) hc78) (lw_V qm_L_87 qi_X4_passHours qs_X4_passHours qn_X4 qc_X4_passHours) hd_X4_passHours ⟨rfl, rfl⟩ ⟨Nat.le_of_ble_eq_true rfl, Nat.le_of_ble_eq_true rfl⟩ ⟨by show kc + 0 ≤ 600130; omega, by show sc + 0 ≤ 7301080; omega⟩ rfl rfl rfl hl.1 (Nat.le_of_ble_eq_true rfl) rfl dL_law_857 (fun H1 hk9 h9 => fr_joinM (wa := []) hP hD K_N hk9 h9) (va_Dmids (wa := []) K_N hD) (fun H locs hP hD hS => ?_)
          have hP : va_P (dC, dI) vwCl ((wN cI cZ n0 h0 h3 h4 h5 h6 c0 c8 c9 c10 c11 c12 c13 t0 t8 t9 t10 t11 t12 t13 i0 i1 i2 i3 i4 m0 m1 m2 uH v78.2.1 uT v78.2.2 uM) ++ (wX5 cI cZ cJ g0 g7 g8 g9 g10 g11 g12 G9 G10 G11 G12 uG ++ [(q825_0, .inl (cI, n825_0, .inl f825_0)), (q825_1, .inl (cZ, n825_1, .inl f825_1)), (q825_2, .inl (cI, n825_2, .inl f825_2)), (q825_3, .inl (cZ, n825_3, .inl f825_3))])) H := hP
          have hD : va_D A ((wN cI cZ n0 h0 h3 h4 h5 h6 c0 c8 c9 c10 c11 c12 c13 t0 t8 t9 t10 t11 t12 t13 i0 i1 i2 i3 i4 m0 m1 m2 uH v78.2.1 uT v78.2.2 uM) ++ (wX5 cI cZ cJ g0 g7 g8 g9 g10 g11 g12 G9 G10 G11 G12 uG ++ [(q825_0, .inl (cI, n825_0, .inl f825_0)), (q825_1, .inl (cZ, n825_1, .inl f825_1)), (q825_2, .inl (cI, n825_2, .inl f825_2)), (q825_3, .inl (cZ, n825_3, .inl f825_3))])) := hD
          refine lv_istore (lv' := [(22, .int v78.1), (21, .int v77), (20, .int v76), (19, .int v75), (18, .int v74), (0, .ref b), (1, .ref n0), (2, .ref g0), (3, .int l825_3), (5, .int l825_5), (6, .int l825_6), (7, .int l825_7), (10, .ref q825_0), (11, .ref q825_1), (13, .int l825_13), (14, .ref q825_2), (15, .ref q825_3)]) hx hb dL_law_860 hl (by decide) rfl (fun ls hl => ?_)
          refine lv_aload_n hx hb dL_law_862 rfl (lv_at hl 7 rfl) ?_
          obtain ⟨v79, hc79, hok⟩ := bd_some hok
          refine cAVv (ci := 5) (q0 := 0) [] S hK hO hP hD hS hA (c_X5_pass l dC dI cI cZ cJ g0 g7 g8 g9 g10 g11 g12 G9 G10 G11 G12 _ uG hc79) (lw_V qm_L_199 qi_X5_pass qs_X5_pass qn_X5 qc_X5_pass) hd_X5_pass ⟨rfl, rfl⟩ ⟨Nat.le_of_ble_eq_true rfl, Nat.le_of_ble_eq_true rfl⟩ ⟨by show kc + 2 ≤ 600130; omega, by show sc + 135 ≤ 7301080; omega⟩ rfl rfl rfl hl.1 (Nat.le_of_ble_eq_true rfl) rfl dL_law_863 (fun a9 H locs hP hD hS => ?_)
          obtain ⟨g7_80, g8_80, g9_80, g10_80, g11_80, g12_80, G9_80, G10_80, G11_80, G12_80⟩ := a9
          have hP : va_P (dC, dI) vwCl ((wN cI cZ n0 h0 h3 h4 h5 h6 c0 c8 c9 c10 c11 c12 c13 t0 t8 t9 t10 t11 t12 t13 i0 i1 i2 i3 i4 m0 m1 m2 uH v78.2.1 uT v78.2.2 uM) ++ (wX5 cI cZ cJ g0 g7_80 g8_80 g9_80 g10_80 g11_80 g12_80 G9_80 G10_80 G11_80 G12_80 v79 ++ [(q825_0, .inl (cI, n825_0, .inl f825_0)), (q825_1, .inl (cZ, n825_1, .inl f825_1)), (q825_2, .inl (cI, n825_2, .inl f825_2)), (q825_3, .inl (cZ, n825_3, .inl f825_3))])) H := hP
          have hD : va_D A ((wN cI cZ n0 h0 h3 h4 h5 h6 c0 c8 c9 c10 c11 c12 c13 t0 t8 t9 t10 t11 t12 t13 i0 i1 i2 i3 i4 m0 m1 m2 uH v78.2.1 uT v78.2.2 uM) ++ (wX5 cI cZ cJ g0 g7_80 g8_80 g9_80 g10_80 g11_80 g12_80 G9_80 G10_80 G11_80 G12_80 v79 ++ [(q825_0, .inl (cI, n825_0, .inl f825_0)), (q825_1, .inl (cZ, n825_1, .inl f825_1)), (q825_2, .inl (cI, n825_2, .inl f825_2)), (q825_3, .inl (cZ, n825_3, .inl f825_3))])) := hD
          refine lv_aload_n hx hb dL_law_866 rfl (lv_at hl 6 rfl) ?_
          obtain ⟨v81, hc81, hok⟩ := bd_some hok
          refine cRVi (ci := 4) (q0 := 0) [] S hK2 (va_Pmid (wa := []) hP) (c_X4_liftAt l dC dI cI cZ n0 h0 h3 h4 h5 h6 c0 c8 c9 c10 c11 c12 c13 t0 t8 t9 t10 t11 t12 t13 i0 i1 i2 i3 i4 m0 m1 m2 uH v78.2.1 uT v78.2.2 uM hc81) (lw_V qm_L_134 qi_X4_liftAt qs_X4_liftAt qn_X4 qc_X4_liftAt) hd_X4_liftAt ⟨rfl, rfl⟩ ⟨Nat.le_of_ble_eq_true rfl, Nat.le_of_ble_eq_true rfl⟩ ⟨by show (kc + 2) ≤ 600130; omega, by show (sc + 135) ≤ 7301080; omega⟩ rfl rfl rfl hl.1 (Nat.le_of_ble_eq_true rfl) rfl dL_law_867 ?_
          refine lv_iload hx hb dL_law_870 (lv_at hl 4 rfl) ?_
          refine lv_isub hx hb dL_law_872 ?_
          refine lv_istore (lv' := [(23, .int (v81 - v74)), (22, .int v78.1), (21, .int v77), (20, .int v76), (19, .int v75), (18, .int v74), (0, .ref b), (1, .ref n0), (2, .ref g0), (3, .int l825_3), (5, .int l825_5), (6, .int l825_6), (7, .int l825_7), (10, .ref q825_0), (11, .ref q825_1), (13, .int l825_13), (14, .ref q825_2), (15, .ref q825_3)]) hx hb dL_law_873 hl (by decide) rfl (fun ls hl => ?_)
          refine lv_iconst (v := (0 : Int32)) hx hb dL_law_875 (by decide) ?_
          refine lv_istore (lv' := [(24, .int (0 : Int32)), (23, .int (v81 - v74)), (22, .int v78.1), (21, .int v77), (20, .int v76), (19, .int v75), (18, .int v74), (0, .ref b), (1, .ref n0), (2, .ref g0), (3, .int l825_3), (5, .int l825_5), (6, .int l825_6), (7, .int l825_7), (10, .ref q825_0), (11, .ref q825_1), (13, .int l825_13), (14, .ref q825_2), (15, .ref q825_3)]) hx hb dL_law_876 hl (by decide) rfl (fun ls hl => ?_)
          refine lv_iconst (v := (0 : Int32)) hx hb dL_law_878 (by decide) ?_
          refine lv_istore (lv' := [(25, .int (0 : Int32)), (24, .int (0 : Int32)), (23, .int (v81 - v74)), (22, .int v78.1), (21, .int v77), (20, .int v76), (19, .int v75), (18, .int v74), (0, .ref b), (1, .ref n0), (2, .ref g0), (3, .int l825_3), (5, .int l825_5), (6, .int l825_6), (7, .int l825_7), (10, .ref q825_0), (11, .ref q825_1), (13, .int l825_13), (14, .ref q825_2), (15, .ref q825_3)]) hx hb dL_law_879 hl (by decide) rfl (fun ls hl => ?_)
          exact L881 200 g7_80 g8_80 g9_80 g10_80 g11_80 g12_80 G9_80 G10_80 G11_80 G12_80 uH v78.2.1 uT v78.2.2 uM v79 q825_0 f825_0 n825_0 q825_1 f825_1 n825_1 q825_2 f825_2 n825_2 q825_3 f825_3 n825_3 l825_3 l825_5 l825_6 l825_7 l825_13 v74 v75 v76 v77 v78.1 (v81 - v74) (0 : Int32) (0 : Int32) (kc + 2) (sc + 135) (by omega) (by omega) _ _ hP hD hS _ (lv_sub hl [8, 9, 10, 11, 12, 13, 14, 15, 16, 17, 18, 19, 7, 6, 5, 4, 3, 2, 1, 0] rfl) hok
        · have hok := iq hok hc
          refine lv_iconst (v := (0 : Int32)) hx hb dL_law_829 (by decide) ?_
          cases hok
      have J802 : ∀ (g7 : Nat) (g8 : Nat) (g9 : Nat) (g10 : Nat) (g11 : Nat) (g12 : Nat) (G9 : (Nat → Nat)) (G10 : (Nat → Nat)) (G11 : (Nat → Nat)) (G12 : (Nat → Nat)) (uH : tX1) (uC : tX0) (uT : tX0) (uI : tX2) (uM : tX3) (uG : tX5) (q802_0 : Nat) (f802_0 : (Nat → Int32)) (n802_0 : Nat) (q802_1 : Nat) (f802_1 : (Nat → Int32)) (n802_1 : Nat) (q802_2 : Nat) (f802_2 : (Nat → Int32)) (n802_2 : Nat) (q802_3 : Nat) (f802_3 : (Nat → Int32)) (n802_3 : Nat) (l802_3 : Int32) (l802_5 : Int32) (l802_6 : Int32) (l802_7 : Int32) (l802_13 : Int32) (l802_16 : Int32) (l802_17 : Int32) (s802_0 : Int32) (s802_1 : Int32) (kc sc : Nat) (hkc : kc + 2 + 128 * n22 + 1 ≤ 600130) (hsc : sc + 135 + 8418 * n22 + 8 ≤ 7301080) (H : Heap) (locs : List Loc) (hP : va_P (dC, dI) vwCl ((wN cI cZ n0 h0 h3 h4 h5 h6 c0 c8 c9 c10 c11 c12 c13 t0 t8 t9 t10 t11 t12 t13 i0 i1 i2 i3 i4 m0 m1 m2 uH uC uT uI uM) ++ (wX5 cI cZ cJ g0 g7 g8 g9 g10 g11 g12 G9 G10 G11 G12 uG ++ [(q802_0, .inl (cI, n802_0, .inl f802_0)), (q802_1, .inl (cZ, n802_1, .inl f802_1)), (q802_2, .inl (cI, n802_2, .inl f802_2)), (q802_3, .inl (cZ, n802_3, .inl f802_3))])) H) (hD : va_D A ((wN cI cZ n0 h0 h3 h4 h5 h6 c0 c8 c9 c10 c11 c12 c13 t0 t8 t9 t10 t11 t12 t13 i0 i1 i2 i3 i4 m0 m1 m2 uH uC uT uI uM) ++ (wX5 cI cZ cJ g0 g7 g8 g9 g10 g11 g12 G9 G10 G11 G12 uG ++ [(q802_0, .inl (cI, n802_0, .inl f802_0)), (q802_1, .inl (cZ, n802_1, .inl f802_1)), (q802_2, .inl (cI, n802_2, .inl f802_2)), (q802_3, .inl (cZ, n802_3, .inl f802_3))]))) (hS : va_S A s.heap H locs) (ls : Array Slot) (hl : lv_has ls 27 [(0, .ref b), (1, .ref n0), (2, .ref g0), (3, .int l802_3), (5, .int l802_5), (6, .int l802_6), (7, .int l802_7), (10, .ref q802_0), (11, .ref q802_1), (13, .int l802_13), (14, .ref q802_2), (15, .ref q802_3), (16, .int l802_16), (17, .int l802_17)]) (hok : p_L_law_J802 xv Lc (p_L_law_L22 xv Lc n22) uH uC uT uI uM uG f802_0 n802_0 f802_1 n802_1 f802_2 n802_2 f802_3 n802_3 l802_3 l802_5 l802_6 l802_7 l802_13 l802_16 l802_17 s802_0 s802_1 = some z), W p l e room_1 s m #[Value.ref b] below meth c H locs kc sc (lw_Z below #[Value.ref b] s) (F0 m 802 ls [.int s802_0, .int s802_1]) := by
        intro g7 g8 g9 g10 g11 g12 G9 G10 G11 G12 uH uC uT uI uM uG q802_0 f802_0 n802_0 q802_1 f802_1 n802_1 q802_2 f802_2 n802_2 q802_3 f802_3 n802_3 l802_3 l802_5 l802_6 l802_7 l802_13 l802_16 l802_17 s802_0 s802_1 kc sc hkc hsc H locs hP hD hS ls hl hok
        unfold p_L_law_J802 at hok
        refine lv_icmp_ne (tgt := 829) hx hb dL_law_802 (by decide) (fun hc => ?_) (fun hc => ?_)
        · have hok := iq hok hc
          refine lv_iconst (v := (0 : Int32)) hx hb dL_law_829 (by decide) ?_
          cases hok
        · have hok := ip hok hc
          refine lv_aload_n hx hb dL_law_805 rfl (lv_at hl 1 rfl) ?_
          obtain ⟨v68, hc68, hok⟩ := bd_some hok
          refine cRVd (ci := 4) (q0 := 0) [] S hK2 (va_Pmid (wa := []) hP) (c_X4_meanWarmth l dC dI cI cZ n0 h0 h3 h4 h5 h6 c0 c8 c9 c10 c11 c12 c13 t0 t8 t9 t10 t11 t12 t13 i0 i1 i2 i3 i4 m0 m1 m2 uH uC uT uI uM hc68) (lw_V qm_L_192 qi_X4_meanWarmth qs_X4_meanWarmth qn_X4 qc_X4_meanWarmth) hd_X4_meanWarmth ⟨rfl, rfl⟩ ⟨Nat.le_of_ble_eq_true rfl, Nat.le_of_ble_eq_true rfl⟩ ⟨by show kc ≤ 600130; omega, by show sc ≤ 7301080; omega⟩ rfl rfl rfl hl.1 (Nat.le_of_ble_eq_true rfl) rfl dL_law_806 ?_
          refine lv_iload hx hb dL_law_809 (lv_at hl 12 rfl) ?_
          refine lv_if_ne (tgt := 818) hx hb dL_law_811 (by decide) (fun hc => ?_) (fun hc => ?_)
          · have hok := iq hok hc
            refine lv_iload hx hb dL_law_818 (lv_at hl 13 rfl) ?_
            refine lv_i2d hx hb dL_law_820 ?_
            refine lv_iload hx hb dL_law_821 (lv_at hl 12 rfl) ?_
            refine lv_i2d hx hb dL_law_823 ?_
            obtain ⟨hn69, hok⟩ := gq_some hok
            refine lv_ddiv hx hb dL_law_824 hn69 ?_
            exact J825 g7 g8 g9 g10 g11 g12 G9 G10 G11 G12 uH uC uT uI uM uG q802_0 f802_0 n802_0 q802_1 f802_1 n802_1 q802_2 f802_2 n802_2 q802_3 f802_3 n802_3 l802_3 l802_5 l802_6 l802_7 l802_13 (FP.ddiv (FP.i2d l802_17) (FP.i2d l802_16)) v68 kc sc (by omega) (by omega) _ _ hP hD hS _ (lv_sub hl [0, 1, 2, 3, 4, 5, 6, 7, 8, 9, 10, 11] rfl) hok
          · have hok := ip hok hc
            refine lv_dconst0 hx hb dL_law_814 ?_
            refine lv_goto (tgt := 825) hx hb dL_law_815 (by decide) ?_
            exact J825 g7 g8 g9 g10 g11 g12 G9 G10 G11 G12 uH uC uT uI uM uG q802_0 f802_0 n802_0 q802_1 f802_1 n802_1 q802_2 f802_2 n802_2 q802_3 f802_3 n802_3 l802_3 l802_5 l802_6 l802_7 l802_13 FP.dconst0 v68 kc sc (by omega) (by omega) _ _ hP hD hS _ (lv_sub hl [0, 1, 2, 3, 4, 5, 6, 7, 8, 9, 10, 11] rfl) hok
      have J792 : ∀ (g7 : Nat) (g8 : Nat) (g9 : Nat) (g10 : Nat) (g11 : Nat) (g12 : Nat) (G9 : (Nat → Nat)) (G10 : (Nat → Nat)) (G11 : (Nat → Nat)) (G12 : (Nat → Nat)) (uH : tX1) (uC : tX0) (uT : tX0) (uI : tX2) (uM : tX3) (uG : tX5) (q792_0 : Nat) (f792_0 : (Nat → Int32)) (n792_0 : Nat) (q792_1 : Nat) (f792_1 : (Nat → Int32)) (n792_1 : Nat) (q792_2 : Nat) (f792_2 : (Nat → Int32)) (n792_2 : Nat) (q792_3 : Nat) (f792_3 : (Nat → Int32)) (n792_3 : Nat) (l792_3 : Int32) (l792_5 : Int32) (l792_6 : Int32) (l792_7 : Int32) (l792_13 : Int32) (l792_16 : Int32) (l792_17 : Int32) (s792_0 : Int32) (kc sc : Nat) (hkc : kc + 2 + 128 * n22 + 1 ≤ 600130) (hsc : sc + 135 + 8418 * n22 + 8 ≤ 7301080) (H : Heap) (locs : List Loc) (hP : va_P (dC, dI) vwCl ((wN cI cZ n0 h0 h3 h4 h5 h6 c0 c8 c9 c10 c11 c12 c13 t0 t8 t9 t10 t11 t12 t13 i0 i1 i2 i3 i4 m0 m1 m2 uH uC uT uI uM) ++ (wX5 cI cZ cJ g0 g7 g8 g9 g10 g11 g12 G9 G10 G11 G12 uG ++ [(q792_0, .inl (cI, n792_0, .inl f792_0)), (q792_1, .inl (cZ, n792_1, .inl f792_1)), (q792_2, .inl (cI, n792_2, .inl f792_2)), (q792_3, .inl (cZ, n792_3, .inl f792_3))])) H) (hD : va_D A ((wN cI cZ n0 h0 h3 h4 h5 h6 c0 c8 c9 c10 c11 c12 c13 t0 t8 t9 t10 t11 t12 t13 i0 i1 i2 i3 i4 m0 m1 m2 uH uC uT uI uM) ++ (wX5 cI cZ cJ g0 g7 g8 g9 g10 g11 g12 G9 G10 G11 G12 uG ++ [(q792_0, .inl (cI, n792_0, .inl f792_0)), (q792_1, .inl (cZ, n792_1, .inl f792_1)), (q792_2, .inl (cI, n792_2, .inl f792_2)), (q792_3, .inl (cZ, n792_3, .inl f792_3))]))) (hS : va_S A s.heap H locs) (ls : Array Slot) (hl : lv_has ls 27 [(0, .ref b), (1, .ref n0), (2, .ref g0), (3, .int l792_3), (5, .int l792_5), (6, .int l792_6), (7, .int l792_7), (10, .ref q792_0), (11, .ref q792_1), (13, .int l792_13), (14, .ref q792_2), (15, .ref q792_3), (16, .int l792_16), (17, .int l792_17)]) (hok : p_L_law_J792 xv Lc (p_L_law_L22 xv Lc n22) uH uC uT uI uM uG f792_0 n792_0 f792_1 n792_1 f792_2 n792_2 f792_3 n792_3 l792_3 l792_5 l792_6 l792_7 l792_13 l792_16 l792_17 s792_0 = some z), W p l e room_1 s m #[Value.ref b] below meth c H locs kc sc (lw_Z below #[Value.ref b] s) (F0 m 792 ls [.int s792_0]) := by
        intro g7 g8 g9 g10 g11 g12 G9 G10 G11 G12 uH uC uT uI uM uG q792_0 f792_0 n792_0 q792_1 f792_1 n792_1 q792_2 f792_2 n792_2 q792_3 f792_3 n792_3 l792_3 l792_5 l792_6 l792_7 l792_13 l792_16 l792_17 s792_0 kc sc hkc hsc H locs hP hD hS ls hl hok
        unfold p_L_law_J792 at hok
        refine lv_iload hx hb dL_law_792 (lv_at hl 12 rfl) ?_
        refine lv_if_ne (tgt := 801) hx hb dL_law_794 (by decide) (fun hc => ?_) (fun hc => ?_)
        · have hok := iq hok hc
          refine lv_iconst (v := (0 : Int32)) hx hb dL_law_801 (by decide) ?_
          exact J802 g7 g8 g9 g10 g11 g12 G9 G10 G11 G12 uH uC uT uI uM uG q792_0 f792_0 n792_0 q792_1 f792_1 n792_1 q792_2 f792_2 n792_2 q792_3 f792_3 n792_3 l792_3 l792_5 l792_6 l792_7 l792_13 l792_16 l792_17 (0 : Int32) s792_0 kc sc (by omega) (by omega) _ _ hP hD hS _ hl hok
        · have hok := ip hok hc
          refine lv_iconst (v := (1 : Int32)) hx hb dL_law_797 (by decide) ?_
          refine lv_goto (tgt := 802) hx hb dL_law_798 (by decide) ?_
          exact J802 g7 g8 g9 g10 g11 g12 G9 G10 G11 G12 uH uC uT uI uM uG q792_0 f792_0 n792_0 q792_1 f792_1 n792_1 q792_2 f792_2 n792_2 q792_3 f792_3 n792_3 l792_3 l792_5 l792_6 l792_7 l792_13 l792_16 l792_17 (1 : Int32) s792_0 kc sc (by omega) (by omega) _ _ hP hD hS _ hl hok
      have L648 : ∀ n648 : Nat, ∀ (g7 : Nat) (g8 : Nat) (g9 : Nat) (g10 : Nat) (g11 : Nat) (g12 : Nat) (G9 : (Nat → Nat)) (G10 : (Nat → Nat)) (G11 : (Nat → Nat)) (G12 : (Nat → Nat)) (uH : tX1) (uC : tX0) (uT : tX0) (uI : tX2) (uM : tX3) (uG : tX5) (q648_0 : Nat) (f648_0 : (Nat → Int32)) (n648_0 : Nat) (q648_1 : Nat) (f648_1 : (Nat → Int32)) (n648_1 : Nat) (q648_2 : Nat) (f648_2 : (Nat → Int32)) (n648_2 : Nat) (q648_3 : Nat) (f648_3 : (Nat → Int32)) (n648_3 : Nat) (l648_3 : Int32) (l648_5 : Int32) (l648_6 : Int32) (l648_7 : Int32) (l648_13 : Int32) (l648_16 : Int32) (l648_17 : Int32) (l648_18 : Int32) (kc sc : Nat) (hkc : kc + 2 + 128 * n22 + 1 ≤ 600130) (hsc : sc + 135 + 8418 * n22 + 8 ≤ 7301080) (H : Heap) (locs : List Loc) (hP : va_P (dC, dI) vwCl ((wN cI cZ n0 h0 h3 h4 h5 h6 c0 c8 c9 c10 c11 c12 c13 t0 t8 t9 t10 t11 t12 t13 i0 i1 i2 i3 i4 m0 m1 m2 uH uC uT uI uM) ++ (wX5 cI cZ cJ g0 g7 g8 g9 g10 g11 g12 G9 G10 G11 G12 uG ++ [(q648_0, .inl (cI, n648_0, .inl f648_0)), (q648_1, .inl (cZ, n648_1, .inl f648_1)), (q648_2, .inl (cI, n648_2, .inl f648_2)), (q648_3, .inl (cZ, n648_3, .inl f648_3))])) H) (hD : va_D A ((wN cI cZ n0 h0 h3 h4 h5 h6 c0 c8 c9 c10 c11 c12 c13 t0 t8 t9 t10 t11 t12 t13 i0 i1 i2 i3 i4 m0 m1 m2 uH uC uT uI uM) ++ (wX5 cI cZ cJ g0 g7 g8 g9 g10 g11 g12 G9 G10 G11 G12 uG ++ [(q648_0, .inl (cI, n648_0, .inl f648_0)), (q648_1, .inl (cZ, n648_1, .inl f648_1)), (q648_2, .inl (cI, n648_2, .inl f648_2)), (q648_3, .inl (cZ, n648_3, .inl f648_3))]))) (hS : va_S A s.heap H locs) (ls : Array Slot) (hl : lv_has ls 27 [(0, .ref b), (1, .ref n0), (2, .ref g0), (3, .int l648_3), (5, .int l648_5), (6, .int l648_6), (7, .int l648_7), (10, .ref q648_0), (11, .ref q648_1), (13, .int l648_13), (14, .ref q648_2), (15, .ref q648_3), (16, .int l648_16), (17, .int l648_17), (18, .int l648_18)]) (hok : p_L_law_L648 xv Lc (p_L_law_L22 xv Lc n22) n648 uH uC uT uI uM uG f648_0 n648_0 f648_1 n648_1 f648_2 n648_2 f648_3 n648_3 l648_3 l648_5 l648_6 l648_7 l648_13 l648_16 l648_17 l648_18 = some z), W p l e room_1 s m #[Value.ref b] below meth c H locs kc sc (lw_Z below #[Value.ref b] s) (F0 m 648 ls []) := by
        intro n648
        induction n648 with
        | zero =>
          intro g7 g8 g9 g10 g11 g12 G9 G10 G11 G12 uH uC uT uI uM uG q648_0 f648_0 n648_0 q648_1 f648_1 n648_1 q648_2 f648_2 n648_2 q648_3 f648_3 n648_3 l648_3 l648_5 l648_6 l648_7 l648_13 l648_16 l648_17 l648_18 kc sc hkc hsc H locs hP hD hS ls hl hok
          rw [p_L_law_L648] at hok
          cases hok
        | succ n648 ih648 =>
          have J739 : ∀ (g7 : Nat) (g8 : Nat) (g9 : Nat) (g10 : Nat) (g11 : Nat) (g12 : Nat) (G9 : (Nat → Nat)) (G10 : (Nat → Nat)) (G11 : (Nat → Nat)) (G12 : (Nat → Nat)) (uH : tX1) (uC : tX0) (uT : tX0) (uI : tX2) (uM : tX3) (uG : tX5) (q739_0 : Nat) (f739_0 : (Nat → Int32)) (n739_0 : Nat) (q739_1 : Nat) (f739_1 : (Nat → Int32)) (n739_1 : Nat) (q739_2 : Nat) (f739_2 : (Nat → Int32)) (n739_2 : Nat) (q739_3 : Nat) (f739_3 : (Nat → Int32)) (n739_3 : Nat) (l739_3 : Int32) (l739_5 : Int32) (l739_6 : Int32) (l739_7 : Int32) (l739_13 : Int32) (l739_16 : Int32) (l739_17 : Int32) (l739_18 : Int32) (kc sc : Nat) (hkc : kc + 2 + 128 * n22 + 1 ≤ 600130) (hsc : sc + 135 + 8418 * n22 + 8 ≤ 7301080) (H : Heap) (locs : List Loc) (hP : va_P (dC, dI) vwCl ((wN cI cZ n0 h0 h3 h4 h5 h6 c0 c8 c9 c10 c11 c12 c13 t0 t8 t9 t10 t11 t12 t13 i0 i1 i2 i3 i4 m0 m1 m2 uH uC uT uI uM) ++ (wX5 cI cZ cJ g0 g7 g8 g9 g10 g11 g12 G9 G10 G11 G12 uG ++ [(q739_0, .inl (cI, n739_0, .inl f739_0)), (q739_1, .inl (cZ, n739_1, .inl f739_1)), (q739_2, .inl (cI, n739_2, .inl f739_2)), (q739_3, .inl (cZ, n739_3, .inl f739_3))])) H) (hD : va_D A ((wN cI cZ n0 h0 h3 h4 h5 h6 c0 c8 c9 c10 c11 c12 c13 t0 t8 t9 t10 t11 t12 t13 i0 i1 i2 i3 i4 m0 m1 m2 uH uC uT uI uM) ++ (wX5 cI cZ cJ g0 g7 g8 g9 g10 g11 g12 G9 G10 G11 G12 uG ++ [(q739_0, .inl (cI, n739_0, .inl f739_0)), (q739_1, .inl (cZ, n739_1, .inl f739_1)), (q739_2, .inl (cI, n739_2, .inl f739_2)), (q739_3, .inl (cZ, n739_3, .inl f739_3))]))) (hS : va_S A s.heap H locs) (ls : Array Slot) (hl : lv_has ls 27 [(0, .ref b), (1, .ref n0), (2, .ref g0), (3, .int l739_3), (5, .int l739_5), (6, .int l739_6), (7, .int l739_7), (10, .ref q739_0), (11, .ref q739_1), (13, .int l739_13), (14, .ref q739_2), (15, .ref q739_3), (16, .int l739_16), (17, .int l739_17), (18, .int l739_18)]) (hok : p_L_law_J739 xv Lc (p_L_law_L22 xv Lc n22) (p_L_law_L648 xv Lc (p_L_law_L22 xv Lc n22) n648) uH uC uT uI uM uG f739_0 n739_0 f739_1 n739_1 f739_2 n739_2 f739_3 n739_3 l739_3 l739_5 l739_6 l739_7 l739_13 l739_16 l739_17 l739_18 = some z), W p l e room_1 s m #[Value.ref b] below meth c H locs kc sc (lw_Z below #[Value.ref b] s) (F0 m 739 ls []) := by
            intro g7 g8 g9 g10 g11 g12 G9 G10 G11 G12 uH uC uT uI uM uG q739_0 f739_0 n739_0 q739_1 f739_1 n739_1 q739_2 f739_2 n739_2 q739_3 f739_3 n739_3 l739_3 l739_5 l739_6 l739_7 l739_13 l739_16 l739_17 l739_18 kc sc hkc hsc H locs hP hD hS ls hl hok
            unfold p_L_law_J739 at hok
            refine lv_aload hx hb dL_law_739 (lv_at hl 11 rfl) ?_
            refine lv_iload hx hb dL_law_741 (lv_at hl 14 rfl) ?_
            obtain ⟨hi70, hok⟩ := gd_some hok
            refine xlz hx hb hK hP 3 1 rfl rfl (j := l739_18.toNatClampNeg) rfl hi70 dL_law_743 ?_
            refine lv_if_eq (tgt := 765) hx hb dL_law_744 (by decide) (fun hc => ?_) (fun hc => ?_)
            · have hok := ip hok hc
              refine lv_iinc (v := (l739_18 + 1)) (lv' := [(18, .int (l739_18 + 1)), (0, .ref b), (1, .ref n0), (2, .ref g0), (3, .int l739_3), (5, .int l739_5), (6, .int l739_6), (7, .int l739_7), (10, .ref q739_0), (11, .ref q739_1), (13, .int l739_13), (14, .ref q739_2), (15, .ref q739_3), (16, .int l739_16), (17, .int l739_17)]) hx hb dL_law_765 hl (k := 14) rfl rfl (by decide) rfl (fun ls hl => ?_)
              refine lv_goto (tgt := 648) hx hb dL_law_768 (by decide) ?_
              exact ih648 g7 g8 g9 g10 g11 g12 G9 G10 G11 G12 uH uC uT uI uM uG q739_0 f739_0 n739_0 q739_1 f739_1 n739_1 q739_2 f739_2 n739_2 q739_3 f739_3 n739_3 l739_3 l739_5 l739_6 l739_7 l739_13 l739_16 l739_17 (l739_18 + 1) kc sc (by omega) (by omega) _ _ hP hD hS _ (lv_sub hl [1, 2, 3, 4, 5, 6, 7, 8, 9, 10, 11, 12, 13, 14, 0] rfl) hok
            · have hok := iq hok hc
              refine lv_aload hx hb dL_law_747 (lv_at hl 10 rfl) ?_
              refine lv_iload hx hb dL_law_749 (lv_at hl 14 rfl) ?_
              obtain ⟨hi71, hok⟩ := gd_some hok
              refine xl hx hb hK hP 2 0 rfl rfl (j := l739_18.toNatClampNeg) rfl hi71 dL_law_751 ?_
              refine lv_aload_n hx hb dL_law_752 rfl (lv_at hl 1 rfl) ?_
              refine lv_aload_n hx hb dL_law_753 rfl (lv_at hl 1 rfl) ?_
              obtain ⟨v72, hc72, hok⟩ := bd_some hok
              refine cRVi (ci := 4) (q0 := 0) [] S hK2 (va_Pmid (wa := []) hP) (c_X4_warmest l dC dI cI cZ n0 h0 h3 h4 h5 h6 c0 c8 c9 c10 c11 c12 c13 t0 t8 t9 t10 t11 t12 t13 i0 i1 i2 i3 i4 m0 m1 m2 uH uC uT uI uM hc72) (lw_V qm_L_188 qi_X4_warmest qs_X4_warmest qn_X4 qc_X4_warmest) hd_X4_warmest ⟨rfl, rfl⟩ ⟨Nat.le_of_ble_eq_true rfl, Nat.le_of_ble_eq_true rfl⟩ ⟨by show kc ≤ 600130; omega, by show sc ≤ 7301080; omega⟩ rfl rfl rfl hl.1 (Nat.le_of_ble_eq_true rfl) rfl dL_law_754 ?_
              obtain ⟨v73, hc73, hok⟩ := bd_some hok
              refine cRVi (ci := 4) (q0 := 0) [.int v72] S hK2 (va_Pmid (wa := []) hP) (c_X4_warmthOf l dC dI cI cZ n0 h0 h3 h4 h5 h6 c0 c8 c9 c10 c11 c12 c13 t0 t8 t9 t10 t11 t12 t13 i0 i1 i2 i3 i4 m0 m1 m2 uH uC uT uI uM v72 hc73) (lw_V qm_L_182 qi_X4_warmthOf qs_X4_warmthOf qn_X4 qc_X4_warmthOf) hd_X4_warmthOf ⟨rfl, rfl⟩ ⟨Nat.le_of_ble_eq_true rfl, Nat.le_of_ble_eq_true rfl⟩ ⟨by show kc ≤ 600130; omega, by show sc ≤ 7301080; omega⟩ rfl rfl rfl hl.1 (Nat.le_of_ble_eq_true rfl) rfl dL_law_757 ?_
              refine lv_icmp_le (tgt := 765) hx hb dL_law_760 (by decide) (fun hc => ?_) (fun hc => ?_)
              · have hok := ip hok hc
                refine lv_iinc (v := (l739_18 + 1)) (lv' := [(18, .int (l739_18 + 1)), (0, .ref b), (1, .ref n0), (2, .ref g0), (3, .int l739_3), (5, .int l739_5), (6, .int l739_6), (7, .int l739_7), (10, .ref q739_0), (11, .ref q739_1), (13, .int l739_13), (14, .ref q739_2), (15, .ref q739_3), (16, .int l739_16), (17, .int l739_17)]) hx hb dL_law_765 hl (k := 14) rfl rfl (by decide) rfl (fun ls hl => ?_)
                refine lv_goto (tgt := 648) hx hb dL_law_768 (by decide) ?_
                exact ih648 g7 g8 g9 g10 g11 g12 G9 G10 G11 G12 uH uC uT uI uM uG q739_0 f739_0 n739_0 q739_1 f739_1 n739_1 q739_2 f739_2 n739_2 q739_3 f739_3 n739_3 l739_3 l739_5 l739_6 l739_7 l739_13 l739_16 l739_17 (l739_18 + 1) kc sc (by omega) (by omega) _ _ hP hD hS _ (lv_sub hl [1, 2, 3, 4, 5, 6, 7, 8, 9, 10, 11, 12, 13, 14, 0] rfl) hok
              · have hok := iq hok hc
                refine lv_iconst (v := (0 : Int32)) hx hb dL_law_763 (by decide) ?_
                cases hok
          have J692 : ∀ (g7 : Nat) (g8 : Nat) (g9 : Nat) (g10 : Nat) (g11 : Nat) (g12 : Nat) (G9 : (Nat → Nat)) (G10 : (Nat → Nat)) (G11 : (Nat → Nat)) (G12 : (Nat → Nat)) (uH : tX1) (uC : tX0) (uT : tX0) (uI : tX2) (uM : tX3) (uG : tX5) (q692_0 : Nat) (f692_0 : (Nat → Int32)) (n692_0 : Nat) (q692_1 : Nat) (f692_1 : (Nat → Int32)) (n692_1 : Nat) (q692_2 : Nat) (f692_2 : (Nat → Int32)) (n692_2 : Nat) (q692_3 : Nat) (f692_3 : (Nat → Int32)) (n692_3 : Nat) (l692_3 : Int32) (l692_5 : Int32) (l692_6 : Int32) (l692_7 : Int32) (l692_13 : Int32) (l692_17 : Int32) (l692_18 : Int32) (s692_0 : Int32) (s692_1 : Int32) (kc sc : Nat) (hkc : kc + 2 + 128 * n22 + 1 ≤ 600130) (hsc : sc + 135 + 8418 * n22 + 8 ≤ 7301080) (H : Heap) (locs : List Loc) (hP : va_P (dC, dI) vwCl ((wN cI cZ n0 h0 h3 h4 h5 h6 c0 c8 c9 c10 c11 c12 c13 t0 t8 t9 t10 t11 t12 t13 i0 i1 i2 i3 i4 m0 m1 m2 uH uC uT uI uM) ++ (wX5 cI cZ cJ g0 g7 g8 g9 g10 g11 g12 G9 G10 G11 G12 uG ++ [(q692_0, .inl (cI, n692_0, .inl f692_0)), (q692_1, .inl (cZ, n692_1, .inl f692_1)), (q692_2, .inl (cI, n692_2, .inl f692_2)), (q692_3, .inl (cZ, n692_3, .inl f692_3))])) H) (hD : va_D A ((wN cI cZ n0 h0 h3 h4 h5 h6 c0 c8 c9 c10 c11 c12 c13 t0 t8 t9 t10 t11 t12 t13 i0 i1 i2 i3 i4 m0 m1 m2 uH uC uT uI uM) ++ (wX5 cI cZ cJ g0 g7 g8 g9 g10 g11 g12 G9 G10 G11 G12 uG ++ [(q692_0, .inl (cI, n692_0, .inl f692_0)), (q692_1, .inl (cZ, n692_1, .inl f692_1)), (q692_2, .inl (cI, n692_2, .inl f692_2)), (q692_3, .inl (cZ, n692_3, .inl f692_3))]))) (hS : va_S A s.heap H locs) (ls : Array Slot) (hl : lv_has ls 27 [(0, .ref b), (1, .ref n0), (2, .ref g0), (3, .int l692_3), (5, .int l692_5), (6, .int l692_6), (7, .int l692_7), (10, .ref q692_0), (11, .ref q692_1), (13, .int l692_13), (14, .ref q692_2), (15, .ref q692_3), (17, .int l692_17), (18, .int l692_18)]) (hok : p_L_law_J692 xv Lc (p_L_law_L22 xv Lc n22) (p_L_law_L648 xv Lc (p_L_law_L22 xv Lc n22) n648) uH uC uT uI uM uG f692_0 n692_0 f692_1 n692_1 f692_2 n692_2 f692_3 n692_3 l692_3 l692_5 l692_6 l692_7 l692_13 l692_17 l692_18 s692_0 s692_1 = some z), W p l e room_1 s m #[Value.ref b] below meth c H locs kc sc (lw_Z below #[Value.ref b] s) (F0 m 692 ls [.int s692_0, .int s692_1]) := by
            intro g7 g8 g9 g10 g11 g12 G9 G10 G11 G12 uH uC uT uI uM uG q692_0 f692_0 n692_0 q692_1 f692_1 n692_1 q692_2 f692_2 n692_2 q692_3 f692_3 n692_3 l692_3 l692_5 l692_6 l692_7 l692_13 l692_17 l692_18 s692_0 s692_1 kc sc hkc hsc H locs hP hD hS ls hl hok
            unfold p_L_law_J692 at hok
            refine lv_iadd hx hb dL_law_692 ?_
            refine lv_istore (lv' := [(16, .int (s692_1 + s692_0)), (0, .ref b), (1, .ref n0), (2, .ref g0), (3, .int l692_3), (5, .int l692_5), (6, .int l692_6), (7, .int l692_7), (10, .ref q692_0), (11, .ref q692_1), (13, .int l692_13), (14, .ref q692_2), (15, .ref q692_3), (17, .int l692_17), (18, .int l692_18)]) hx hb dL_law_693 hl (by decide) rfl (fun ls hl => ?_)
            refine lv_iload hx hb dL_law_695 (lv_at hl 13 rfl) ?_
            refine lv_aload hx hb dL_law_697 (lv_at hl 11 rfl) ?_
            refine lv_iload hx hb dL_law_699 (lv_at hl 14 rfl) ?_
            obtain ⟨hi60, hok⟩ := gd_some hok
            refine xl hx hb hK hP 2 0 rfl rfl (j := l692_18.toNatClampNeg) rfl hi60 dL_law_701 ?_
            refine lv_iadd hx hb dL_law_702 ?_
            refine lv_istore (lv' := [(17, .int (l692_17 + (f692_2 l692_18.toNatClampNeg))), (16, .int (s692_1 + s692_0)), (0, .ref b), (1, .ref n0), (2, .ref g0), (3, .int l692_3), (5, .int l692_5), (6, .int l692_6), (7, .int l692_7), (10, .ref q692_0), (11, .ref q692_1), (13, .int l692_13), (14, .ref q692_2), (15, .ref q692_3), (18, .int l692_18)]) hx hb dL_law_703 hl (by decide) rfl (fun ls hl => ?_)
            refine lv_aload hx hb dL_law_705 (lv_at hl 12 rfl) ?_
            refine lv_iload hx hb dL_law_707 (lv_at hl 14 rfl) ?_
            refine xl hx hb hK hP 2 0 rfl rfl (j := l692_18.toNatClampNeg) rfl hi60 dL_law_709 ?_
            refine lv_if_lt (tgt := 763) hx hb dL_law_710 (by decide) (fun hc => ?_) (fun hc => ?_)
            · have hok := ip hok hc
              refine lv_iconst (v := (0 : Int32)) hx hb dL_law_763 (by decide) ?_
              cases hok
            · have hok := iq hok hc
              refine lv_aload hx hb dL_law_713 (lv_at hl 12 rfl) ?_
              refine lv_iload hx hb dL_law_715 (lv_at hl 14 rfl) ?_
              refine xl hx hb hK hP 2 0 rfl rfl (j := l692_18.toNatClampNeg) rfl hi60 dL_law_717 ?_
              refine lv_bipush (v := (99 : Int32)) hx hb dL_law_718 (by decide) ?_
              refine lv_icmp_gt (tgt := 763) hx hb dL_law_720 (by decide) (fun hc => ?_) (fun hc => ?_)
              · have hok := ip hok hc
                refine lv_iconst (v := (0 : Int32)) hx hb dL_law_763 (by decide) ?_
                cases hok
              · have hok := iq hok hc
                refine lv_aload hx hb dL_law_723 (lv_at hl 13 rfl) ?_
                refine lv_iload hx hb dL_law_725 (lv_at hl 14 rfl) ?_
                obtain ⟨hi61, hok⟩ := gd_some hok
                refine xlz hx hb hK hP 3 1 rfl rfl (j := l692_18.toNatClampNeg) rfl hi61 dL_law_727 ?_
                refine lv_if_ne (tgt := 739) hx hb dL_law_728 (by decide) (fun hc => ?_) (fun hc => ?_)
                · have hok := iq hok hc
                  exact J739 g7 g8 g9 g10 g11 g12 G9 G10 G11 G12 uH uC uT uI uM uG q692_0 f692_0 n692_0 q692_1 f692_1 n692_1 q692_2 f692_2 n692_2 q692_3 f692_3 n692_3 l692_3 l692_5 l692_6 l692_7 l692_13 (s692_1 + s692_0) (l692_17 + (f692_2 l692_18.toNatClampNeg)) l692_18 kc sc (by omega) (by omega) _ _ hP hD hS _ (lv_sub hl [2, 3, 4, 5, 6, 7, 8, 9, 10, 11, 12, 13, 1, 0, 14] rfl) hok
                · have hok := ip hok hc
                  refine lv_aload hx hb dL_law_731 (lv_at hl 12 rfl) ?_
                  refine lv_iload hx hb dL_law_733 (lv_at hl 14 rfl) ?_
                  refine xl hx hb hK hP 2 0 rfl rfl (j := l692_18.toNatClampNeg) rfl hi60 dL_law_735 ?_
                  refine lv_if_gt (tgt := 763) hx hb dL_law_736 (by decide) (fun hc => ?_) (fun hc => ?_)
                  · have hok := ip hok hc
                    refine lv_iconst (v := (0 : Int32)) hx hb dL_law_763 (by decide) ?_
                    cases hok
                  · have hok := iq hok hc
                    exact J739 g7 g8 g9 g10 g11 g12 G9 G10 G11 G12 uH uC uT uI uM uG q692_0 f692_0 n692_0 q692_1 f692_1 n692_1 q692_2 f692_2 n692_2 q692_3 f692_3 n692_3 l692_3 l692_5 l692_6 l692_7 l692_13 (s692_1 + s692_0) (l692_17 + (f692_2 l692_18.toNatClampNeg)) l692_18 kc sc (by omega) (by omega) _ _ hP hD hS _ (lv_sub hl [2, 3, 4, 5, 6, 7, 8, 9, 10, 11, 12, 13, 1, 0, 14] rfl) hok
          intro g7 g8 g9 g10 g11 g12 G9 G10 G11 G12 uH uC uT uI uM uG q648_0 f648_0 n648_0 q648_1 f648_1 n648_1 q648_2 f648_2 n648_2 q648_3 f648_3 n648_3 l648_3 l648_5 l648_6 l648_7 l648_13 l648_16 l648_17 l648_18 kc sc hkc hsc H locs hP hD hS ls hl hok
          rw [p_L_law_L648] at hok
          refine lv_iload hx hb dL_law_648 (lv_at hl 14 rfl) ?_
          refine lv_iload hx hb dL_law_650 (lv_at hl 9 rfl) ?_
          refine lv_icmp_ge (tgt := 771) hx hb dL_law_652 (by decide) (fun hc => ?_) (fun hc => ?_)
          · have hok := ip hok hc
            refine lv_iload hx hb dL_law_771 (lv_at hl 12 rfl) ?_
            refine lv_aload_n hx hb dL_law_773 rfl (lv_at hl 1 rfl) ?_
            obtain ⟨v51, hc51, hok⟩ := bd_some hok
            refine cRVi (ci := 4) (q0 := 0) [] S hK2 (va_Pmid (wa := []) hP) (c_X4_subscribers l dC dI cI cZ n0 h0 h3 h4 h5 h6 c0 c8 c9 c10 c11 c12 c13 t0 t8 t9 t10 t11 t12 t13 i0 i1 i2 i3 i4 m0 m1 m2 uH uC uT uI uM hc51) (lw_V qm_L_191 qi_X4_subscribers qs_X4_subscribers qn_X4 qc_X4_subscribers) hd_X4_subscribers ⟨rfl, rfl⟩ ⟨Nat.le_of_ble_eq_true rfl, Nat.le_of_ble_eq_true rfl⟩ ⟨by show kc ≤ 600130; omega, by show sc ≤ 7301080; omega⟩ rfl rfl rfl hl.1 (Nat.le_of_ble_eq_true rfl) rfl dL_law_774 ?_
            refine lv_icmp_ne (tgt := 829) hx hb dL_law_777 (by decide) (fun hc => ?_) (fun hc => ?_)
            · have hok := iq hok hc
              refine lv_iconst (v := (0 : Int32)) hx hb dL_law_829 (by decide) ?_
              cases hok
            · have hok := ip hok hc
              refine lv_aload_n hx hb dL_law_780 rfl (lv_at hl 1 rfl) ?_
              obtain ⟨v52, hc52, hok⟩ := bd_some hok
              refine cRVi (ci := 4) (q0 := 0) [] S hK2 (va_Pmid (wa := []) hP) (c_X4_warmest l dC dI cI cZ n0 h0 h3 h4 h5 h6 c0 c8 c9 c10 c11 c12 c13 t0 t8 t9 t10 t11 t12 t13 i0 i1 i2 i3 i4 m0 m1 m2 uH uC uT uI uM hc52) (lw_V qm_L_188 qi_X4_warmest qs_X4_warmest qn_X4 qc_X4_warmest) hd_X4_warmest ⟨rfl, rfl⟩ ⟨Nat.le_of_ble_eq_true rfl, Nat.le_of_ble_eq_true rfl⟩ ⟨by show kc ≤ 600130; omega, by show sc ≤ 7301080; omega⟩ rfl rfl rfl hl.1 (Nat.le_of_ble_eq_true rfl) rfl dL_law_781 ?_
              refine lv_if_ge (tgt := 791) hx hb dL_law_784 (by decide) (fun hc => ?_) (fun hc => ?_)
              · have hok := ip hok hc
                refine lv_iconst (v := (0 : Int32)) hx hb dL_law_791 (by decide) ?_
                exact J792 g7 g8 g9 g10 g11 g12 G9 G10 G11 G12 uH uC uT uI uM uG q648_0 f648_0 n648_0 q648_1 f648_1 n648_1 q648_2 f648_2 n648_2 q648_3 f648_3 n648_3 l648_3 l648_5 l648_6 l648_7 l648_13 l648_16 l648_17 (0 : Int32) kc sc (by omega) (by omega) _ _ hP hD hS _ (lv_sub hl [0, 1, 2, 3, 4, 5, 6, 7, 8, 9, 10, 11, 12, 13] rfl) hok
              · have hok := iq hok hc
                refine lv_iconst (v := (1 : Int32)) hx hb dL_law_787 (by decide) ?_
                refine lv_goto (tgt := 792) hx hb dL_law_788 (by decide) ?_
                exact J792 g7 g8 g9 g10 g11 g12 G9 G10 G11 G12 uH uC uT uI uM uG q648_0 f648_0 n648_0 q648_1 f648_1 n648_1 q648_2 f648_2 n648_2 q648_3 f648_3 n648_3 l648_3 l648_5 l648_6 l648_7 l648_13 l648_16 l648_17 (1 : Int32) kc sc (by omega) (by omega) _ _ hP hD hS _ (lv_sub hl [0, 1, 2, 3, 4, 5, 6, 7, 8, 9, 10, 11, 12, 13] rfl) hok
          · have hok := iq hok hc
            refine lv_aload hx hb dL_law_655 (lv_at hl 10 rfl) ?_
            refine lv_iload hx hb dL_law_657 (lv_at hl 14 rfl) ?_
            refine lv_aload_n hx hb dL_law_659 rfl (lv_at hl 1 rfl) ?_
            refine lv_iload hx hb dL_law_660 (lv_at hl 14 rfl) ?_
            obtain ⟨v53, hc53, hok⟩ := bd_some hok
            refine cRVi (ci := 4) (q0 := 0) [.int l648_18] S hK2 (va_Pmid (wa := []) hP) (c_X4_warmthOf l dC dI cI cZ n0 h0 h3 h4 h5 h6 c0 c8 c9 c10 c11 c12 c13 t0 t8 t9 t10 t11 t12 t13 i0 i1 i2 i3 i4 m0 m1 m2 uH uC uT uI uM l648_18 hc53) (lw_V qm_L_182 qi_X4_warmthOf qs_X4_warmthOf qn_X4 qc_X4_warmthOf) hd_X4_warmthOf ⟨rfl, rfl⟩ ⟨Nat.le_of_ble_eq_true rfl, Nat.le_of_ble_eq_true rfl⟩ ⟨by show kc ≤ 600130; omega, by show sc ≤ 7301080; omega⟩ rfl rfl rfl hl.1 (Nat.le_of_ble_eq_true rfl) rfl dL_law_662 ?_
            obtain ⟨hi54, hok⟩ := gd_some hok
            refine xs hx hb hK hP hD hS 2 0 rfl rfl (j := l648_18.toNatClampNeg) rfl hi54 dL_law_665 (fun H locs hP hD hS => ?_)
            have hP : va_P (dC, dI) vwCl ((wN cI cZ n0 h0 h3 h4 h5 h6 c0 c8 c9 c10 c11 c12 c13 t0 t8 t9 t10 t11 t12 t13 i0 i1 i2 i3 i4 m0 m1 m2 uH uC uT uI uM) ++ (wX5 cI cZ cJ g0 g7 g8 g9 g10 g11 g12 G9 G10 G11 G12 uG ++ [(q648_0, .inl (cI, n648_0, .inl f648_0)), (q648_1, .inl (cZ, n648_1, .inl f648_1)), (q648_2, .inl (cI, n648_2, .inl (upd f648_2 l648_18.toNatClampNeg v53))), (q648_3, .inl (cZ, n648_3, .inl f648_3))])) H := hP
            have hD : va_D A ((wN cI cZ n0 h0 h3 h4 h5 h6 c0 c8 c9 c10 c11 c12 c13 t0 t8 t9 t10 t11 t12 t13 i0 i1 i2 i3 i4 m0 m1 m2 uH uC uT uI uM) ++ (wX5 cI cZ cJ g0 g7 g8 g9 g10 g11 g12 G9 G10 G11 G12 uG ++ [(q648_0, .inl (cI, n648_0, .inl f648_0)), (q648_1, .inl (cZ, n648_1, .inl f648_1)), (q648_2, .inl (cI, n648_2, .inl (upd f648_2 l648_18.toNatClampNeg v53))), (q648_3, .inl (cZ, n648_3, .inl f648_3))])) := hD
            refine lv_aload hx hb dL_law_666 (lv_at hl 11 rfl) ?_
            refine lv_iload hx hb dL_law_668 (lv_at hl 14 rfl) ?_
            refine lv_aload_n hx hb dL_law_670 rfl (lv_at hl 1 rfl) ?_
            refine lv_iload hx hb dL_law_671 (lv_at hl 14 rfl) ?_
            obtain ⟨v55, hc55, hok⟩ := bd_some hok
            refine cRVi (ci := 4) (q0 := 0) [.int l648_18] S hK2 (va_Pmid (wa := []) hP) (c_X4_isSubscriber l dC dI cI cZ n0 h0 h3 h4 h5 h6 c0 c8 c9 c10 c11 c12 c13 t0 t8 t9 t10 t11 t12 t13 i0 i1 i2 i3 i4 m0 m1 m2 uH uC uT uI uM l648_18 hc55) (lw_V qm_L_185 qi_X4_isSubscriber qs_X4_isSubscriber qn_X4 qc_X4_isSubscriber) hd_X4_isSubscriber ⟨rfl, rfl⟩ ⟨Nat.le_of_ble_eq_true rfl, Nat.le_of_ble_eq_true rfl⟩ ⟨by show kc ≤ 600130; omega, by show sc ≤ 7301080; omega⟩ rfl rfl rfl hl.1 (Nat.le_of_ble_eq_true rfl) rfl dL_law_673 ?_
            obtain ⟨hi56, hok⟩ := gd_some hok
            refine xsz hx hb hK hP hD hS 3 1 rfl rfl (j := l648_18.toNatClampNeg) rfl hi56 dL_law_676 (fun H locs hP hD hS => ?_)
            have hP : va_P (dC, dI) vwCl ((wN cI cZ n0 h0 h3 h4 h5 h6 c0 c8 c9 c10 c11 c12 c13 t0 t8 t9 t10 t11 t12 t13 i0 i1 i2 i3 i4 m0 m1 m2 uH uC uT uI uM) ++ (wX5 cI cZ cJ g0 g7 g8 g9 g10 g11 g12 G9 G10 G11 G12 uG ++ [(q648_0, .inl (cI, n648_0, .inl f648_0)), (q648_1, .inl (cZ, n648_1, .inl f648_1)), (q648_2, .inl (cI, n648_2, .inl (upd f648_2 l648_18.toNatClampNeg v53))), (q648_3, .inl (cZ, n648_3, .inl (upd f648_3 l648_18.toNatClampNeg (vp_nar .boolean v55))))])) H := hP
            have hD : va_D A ((wN cI cZ n0 h0 h3 h4 h5 h6 c0 c8 c9 c10 c11 c12 c13 t0 t8 t9 t10 t11 t12 t13 i0 i1 i2 i3 i4 m0 m1 m2 uH uC uT uI uM) ++ (wX5 cI cZ cJ g0 g7 g8 g9 g10 g11 g12 G9 G10 G11 G12 uG ++ [(q648_0, .inl (cI, n648_0, .inl f648_0)), (q648_1, .inl (cZ, n648_1, .inl f648_1)), (q648_2, .inl (cI, n648_2, .inl (upd f648_2 l648_18.toNatClampNeg v53))), (q648_3, .inl (cZ, n648_3, .inl (upd f648_3 l648_18.toNatClampNeg (vp_nar .boolean v55))))])) := hD
            refine lv_iload hx hb dL_law_677 (lv_at hl 12 rfl) ?_
            refine lv_aload hx hb dL_law_679 (lv_at hl 11 rfl) ?_
            refine lv_iload hx hb dL_law_681 (lv_at hl 14 rfl) ?_
            refine xlz hx hb hK hP 3 1 rfl rfl (j := l648_18.toNatClampNeg) rfl hi56 dL_law_683 ?_
            refine lv_if_eq (tgt := 691) hx hb dL_law_684 (by decide) (fun hc => ?_) (fun hc => ?_)
            · have hok := ip hok hc
              refine lv_iconst (v := (0 : Int32)) hx hb dL_law_691 (by decide) ?_
              exact J692 g7 g8 g9 g10 g11 g12 G9 G10 G11 G12 uH uC uT uI uM uG q648_0 f648_0 n648_0 q648_1 f648_1 n648_1 q648_2 (upd f648_2 l648_18.toNatClampNeg v53) n648_2 q648_3 (upd f648_3 l648_18.toNatClampNeg (vp_nar .boolean v55)) n648_3 l648_3 l648_5 l648_6 l648_7 l648_13 l648_17 l648_18 (0 : Int32) l648_16 kc sc (by omega) (by omega) _ _ hP hD hS _ (lv_sub hl [0, 1, 2, 3, 4, 5, 6, 7, 8, 9, 10, 11, 13, 14] rfl) hok
            · have hok := iq hok hc
              refine lv_iconst (v := (1 : Int32)) hx hb dL_law_687 (by decide) ?_
              refine lv_goto (tgt := 692) hx hb dL_law_688 (by decide) ?_
              exact J692 g7 g8 g9 g10 g11 g12 G9 G10 G11 G12 uH uC uT uI uM uG q648_0 f648_0 n648_0 q648_1 f648_1 n648_1 q648_2 (upd f648_2 l648_18.toNatClampNeg v53) n648_2 q648_3 (upd f648_3 l648_18.toNatClampNeg (vp_nar .boolean v55)) n648_3 l648_3 l648_5 l648_6 l648_7 l648_13 l648_17 l648_18 (1 : Int32) l648_16 kc sc (by omega) (by omega) _ _ hP hD hS _ (lv_sub hl [0, 1, 2, 3, 4, 5, 6, 7, 8, 9, 10, 11, 13, 14] rfl) hok
      have L573 : ∀ n573 : Nat, ∀ (g7 : Nat) (g8 : Nat) (g9 : Nat) (g10 : Nat) (g11 : Nat) (g12 : Nat) (G9 : (Nat → Nat)) (G10 : (Nat → Nat)) (G11 : (Nat → Nat)) (G12 : (Nat → Nat)) (uH : tX1) (uC : tX0) (uT : tX0) (uI : tX2) (uM : tX3) (uG : tX5) (q573_0 : Nat) (f573_0 : (Nat → Int32)) (n573_0 : Nat) (q573_1 : Nat) (f573_1 : (Nat → Int32)) (n573_1 : Nat) (l573_3 : Int32) (l573_5 : Int32) (l573_6 : Int32) (l573_7 : Int32) (l573_13 : Int32) (kc sc : Nat) (hkc : kc + 4 + 128 * n22 + 1 ≤ 600130) (hsc : sc + 159 + 8418 * n22 + 8 ≤ 7301080) (H : Heap) (locs : List Loc) (hP : va_P (dC, dI) vwCl ((wN cI cZ n0 h0 h3 h4 h5 h6 c0 c8 c9 c10 c11 c12 c13 t0 t8 t9 t10 t11 t12 t13 i0 i1 i2 i3 i4 m0 m1 m2 uH uC uT uI uM) ++ (wX5 cI cZ cJ g0 g7 g8 g9 g10 g11 g12 G9 G10 G11 G12 uG ++ [(q573_0, .inl (cI, n573_0, .inl f573_0)), (q573_1, .inl (cZ, n573_1, .inl f573_1))])) H) (hD : va_D A ((wN cI cZ n0 h0 h3 h4 h5 h6 c0 c8 c9 c10 c11 c12 c13 t0 t8 t9 t10 t11 t12 t13 i0 i1 i2 i3 i4 m0 m1 m2 uH uC uT uI uM) ++ (wX5 cI cZ cJ g0 g7 g8 g9 g10 g11 g12 G9 G10 G11 G12 uG ++ [(q573_0, .inl (cI, n573_0, .inl f573_0)), (q573_1, .inl (cZ, n573_1, .inl f573_1))]))) (hS : va_S A s.heap H locs) (ls : Array Slot) (hl : lv_has ls 27 [(0, .ref b), (1, .ref n0), (2, .ref g0), (3, .int l573_3), (5, .int l573_5), (6, .int l573_6), (7, .int l573_7), (10, .ref q573_0), (11, .ref q573_1), (13, .int l573_13)]) (hok : p_L_law_L573 xv Lc (p_L_law_L22 xv Lc n22) n573 uH uC uT uI uM uG f573_0 n573_0 f573_1 n573_1 l573_3 l573_5 l573_6 l573_7 l573_13 = some z), W p l e room_1 s m #[Value.ref b] below meth c H locs kc sc (lw_Z below #[Value.ref b] s) (F0 m 573 ls []) := by
        intro n573
        induction n573 with
        | zero =>
          intro g7 g8 g9 g10 g11 g12 G9 G10 G11 G12 uH uC uT uI uM uG q573_0 f573_0 n573_0 q573_1 f573_1 n573_1 l573_3 l573_5 l573_6 l573_7 l573_13 kc sc hkc hsc H locs hP hD hS ls hl hok
          rw [p_L_law_L573] at hok
          cases hok
        | succ n573 ih573 =>
          intro g7 g8 g9 g10 g11 g12 G9 G10 G11 G12 uH uC uT uI uM uG q573_0 f573_0 n573_0 q573_1 f573_1 n573_1 l573_3 l573_5 l573_6 l573_7 l573_13 kc sc hkc hsc H locs hP hD hS ls hl hok
          rw [p_L_law_L573] at hok
          refine lv_iload hx hb dL_law_573 (lv_at hl 9 rfl) ?_
          refine lv_aload_n hx hb dL_law_575 rfl (lv_at hl 1 rfl) ?_
          obtain ⟨v38, hc38, hok⟩ := bd_some hok
          refine cRVi (ci := 4) (q0 := 0) [] S hK2 (va_Pmid (wa := []) hP) (c_X4_mirrors l dC dI cI cZ n0 h0 h3 h4 h5 h6 c0 c8 c9 c10 c11 c12 c13 t0 t8 t9 t10 t11 t12 t13 i0 i1 i2 i3 i4 m0 m1 m2 uH uC uT uI uM hc38) (lw_V qm_L_166 qi_X4_mirrors qs_X4_mirrors qn_X4 qc_X4_mirrors) hd_X4_mirrors ⟨rfl, rfl⟩ ⟨Nat.le_of_ble_eq_true rfl, Nat.le_of_ble_eq_true rfl⟩ ⟨by show kc ≤ 600130; omega, by show sc ≤ 7301080; omega⟩ rfl rfl rfl hl.1 (Nat.le_of_ble_eq_true rfl) rfl dL_law_576 ?_
          refine lv_icmp_ge (tgt := 621) hx hb dL_law_579 (by decide) (fun hc => ?_) (fun hc => ?_)
          · have hok := ip hok hc
            refine lv_aload_n hx hb dL_law_621 rfl (lv_at hl 1 rfl) ?_
            obtain ⟨v39, hc39, hok⟩ := bd_some hok
            refine cRVi (ci := 4) (q0 := 0) [] S hK2 (va_Pmid (wa := []) hP) (c_X4_readers l dC dI cI cZ n0 h0 h3 h4 h5 h6 c0 c8 c9 c10 c11 c12 c13 t0 t8 t9 t10 t11 t12 t13 i0 i1 i2 i3 i4 m0 m1 m2 uH uC uT uI uM hc39) (lw_V qm_L_180 qi_X4_readers qs_X4_readers qn_X4 qc_X4_readers) hd_X4_readers ⟨rfl, rfl⟩ ⟨Nat.le_of_ble_eq_true rfl, Nat.le_of_ble_eq_true rfl⟩ ⟨by show kc ≤ 600130; omega, by show sc ≤ 7301080; omega⟩ rfl rfl rfl hl.1 (Nat.le_of_ble_eq_true rfl) rfl dL_law_622 ?_
            refine lv_istore (lv' := [(13, .int v39), (0, .ref b), (1, .ref n0), (2, .ref g0), (3, .int l573_3), (5, .int l573_5), (6, .int l573_6), (7, .int l573_7), (10, .ref q573_0), (11, .ref q573_1)]) hx hb dL_law_625 hl (by decide) rfl (fun ls hl => ?_)
            refine lv_iload hx hb dL_law_627 (lv_at hl 0 rfl) ?_
            obtain ⟨hg41, hok⟩ := gL_some hok
            refine va_newaI (n := v39.toNatClampNeg) hx hb (hts _ qy_int) hK 0 rfl hP hD hS hA hg41.1 rfl (by have := hg41.2; omega) (by show kc + 1 ≤ 600130; omega) (by have := hg41.2; show sc + _ ≤ 7301080; omega) dL_law_629 (fun q40 H hP hD hS => ?_)
            refine W.widen (k := kc + 1) (n := sc + 12) (Nat.le_refl _) (Nat.add_le_add_left hg41.2 _) ?_
            have hP := ra_P hP
            have hD := ra_D hD
            have hP : va_P (dC, dI) vwCl ((wN cI cZ n0 h0 h3 h4 h5 h6 c0 c8 c9 c10 c11 c12 c13 t0 t8 t9 t10 t11 t12 t13 i0 i1 i2 i3 i4 m0 m1 m2 uH uC uT uI uM) ++ (wX5 cI cZ cJ g0 g7 g8 g9 g10 g11 g12 G9 G10 G11 G12 uG ++ [(q573_0, .inl (cI, n573_0, .inl f573_0)), (q573_1, .inl (cZ, n573_1, .inl f573_1)), (q40, .inl (cI, v39.toNatClampNeg, .inl (fun _ => (0 : Int32))))])) H := hP
            have hD : va_D A ((wN cI cZ n0 h0 h3 h4 h5 h6 c0 c8 c9 c10 c11 c12 c13 t0 t8 t9 t10 t11 t12 t13 i0 i1 i2 i3 i4 m0 m1 m2 uH uC uT uI uM) ++ (wX5 cI cZ cJ g0 g7 g8 g9 g10 g11 g12 G9 G10 G11 G12 uG ++ [(q573_0, .inl (cI, n573_0, .inl f573_0)), (q573_1, .inl (cZ, n573_1, .inl f573_1)), (q40, .inl (cI, v39.toNatClampNeg, .inl (fun _ => (0 : Int32))))])) := hD
            refine lv_astore (lv' := [(14, .ref q40), (13, .int v39), (0, .ref b), (1, .ref n0), (2, .ref g0), (3, .int l573_3), (5, .int l573_5), (6, .int l573_6), (7, .int l573_7), (10, .ref q573_0), (11, .ref q573_1)]) hx hb dL_law_631 hl (by decide) rfl (fun ls hl => ?_)
            refine lv_iload hx hb dL_law_633 (lv_at hl 1 rfl) ?_
            obtain ⟨hg43, hok⟩ := gL_some hok
            refine va_newaZ (n := v39.toNatClampNeg) hx hb (hts _ qy_boolean) hK 1 rfl hP hD hS hA hg43.1 rfl (by have := hg43.2; omega) (by show (kc + 1) + 1 ≤ 600130; omega) (by have := hg43.2; show (sc + 12) + _ ≤ 7301080; omega) dL_law_635 (fun q42 H hP hD hS => ?_)
            refine W.widen (k := (kc + 1) + 1) (n := (sc + 12) + 12) (Nat.le_refl _) (Nat.add_le_add_left hg43.2 _) ?_
            have hP := ra_P hP
            have hD := ra_D hD
            have hP : va_P (dC, dI) vwCl ((wN cI cZ n0 h0 h3 h4 h5 h6 c0 c8 c9 c10 c11 c12 c13 t0 t8 t9 t10 t11 t12 t13 i0 i1 i2 i3 i4 m0 m1 m2 uH uC uT uI uM) ++ (wX5 cI cZ cJ g0 g7 g8 g9 g10 g11 g12 G9 G10 G11 G12 uG ++ [(q573_0, .inl (cI, n573_0, .inl f573_0)), (q573_1, .inl (cZ, n573_1, .inl f573_1)), (q40, .inl (cI, v39.toNatClampNeg, .inl (fun _ => (0 : Int32)))), (q42, .inl (cZ, v39.toNatClampNeg, .inl (fun _ => (0 : Int32))))])) H := hP
            have hD : va_D A ((wN cI cZ n0 h0 h3 h4 h5 h6 c0 c8 c9 c10 c11 c12 c13 t0 t8 t9 t10 t11 t12 t13 i0 i1 i2 i3 i4 m0 m1 m2 uH uC uT uI uM) ++ (wX5 cI cZ cJ g0 g7 g8 g9 g10 g11 g12 G9 G10 G11 G12 uG ++ [(q573_0, .inl (cI, n573_0, .inl f573_0)), (q573_1, .inl (cZ, n573_1, .inl f573_1)), (q40, .inl (cI, v39.toNatClampNeg, .inl (fun _ => (0 : Int32)))), (q42, .inl (cZ, v39.toNatClampNeg, .inl (fun _ => (0 : Int32))))])) := hD
            refine lv_astore (lv' := [(15, .ref q42), (14, .ref q40), (13, .int v39), (0, .ref b), (1, .ref n0), (2, .ref g0), (3, .int l573_3), (5, .int l573_5), (6, .int l573_6), (7, .int l573_7), (10, .ref q573_0), (11, .ref q573_1)]) hx hb dL_law_637 hl (by decide) rfl (fun ls hl => ?_)
            refine lv_iconst (v := (0 : Int32)) hx hb dL_law_639 (by decide) ?_
            refine lv_istore (lv' := [(16, .int (0 : Int32)), (15, .ref q42), (14, .ref q40), (13, .int v39), (0, .ref b), (1, .ref n0), (2, .ref g0), (3, .int l573_3), (5, .int l573_5), (6, .int l573_6), (7, .int l573_7), (10, .ref q573_0), (11, .ref q573_1)]) hx hb dL_law_640 hl (by decide) rfl (fun ls hl => ?_)
            refine lv_iconst (v := (0 : Int32)) hx hb dL_law_642 (by decide) ?_
            refine lv_istore (lv' := [(17, .int (0 : Int32)), (16, .int (0 : Int32)), (15, .ref q42), (14, .ref q40), (13, .int v39), (0, .ref b), (1, .ref n0), (2, .ref g0), (3, .int l573_3), (5, .int l573_5), (6, .int l573_6), (7, .int l573_7), (10, .ref q573_0), (11, .ref q573_1)]) hx hb dL_law_643 hl (by decide) rfl (fun ls hl => ?_)
            refine lv_iconst (v := (0 : Int32)) hx hb dL_law_645 (by decide) ?_
            refine lv_istore (lv' := [(18, .int (0 : Int32)), (17, .int (0 : Int32)), (16, .int (0 : Int32)), (15, .ref q42), (14, .ref q40), (13, .int v39), (0, .ref b), (1, .ref n0), (2, .ref g0), (3, .int l573_3), (5, .int l573_5), (6, .int l573_6), (7, .int l573_7), (10, .ref q573_0), (11, .ref q573_1)]) hx hb dL_law_646 hl (by decide) rfl (fun ls hl => ?_)
            exact L648 200 g7 g8 g9 g10 g11 g12 G9 G10 G11 G12 uH uC uT uI uM uG q573_0 f573_0 n573_0 q573_1 f573_1 n573_1 q40 (fun _ => (0 : Int32)) v39.toNatClampNeg q42 (fun _ => (0 : Int32)) v39.toNatClampNeg l573_3 l573_5 l573_6 l573_7 v39 (0 : Int32) (0 : Int32) (0 : Int32) ((kc + 1) + 1) ((sc + 12) + 12) (by omega) (by omega) _ _ hP hD hS _ (lv_sub hl [6, 7, 8, 9, 10, 11, 12, 13, 14, 5, 4, 3, 2, 1, 0] rfl) hok
          · have hok := iq hok hc
            refine lv_aload_n hx hb dL_law_582 rfl (lv_at hl 1 rfl) ?_
            refine lv_iload hx hb dL_law_583 (lv_at hl 9 rfl) ?_
            obtain ⟨v44, hc44, hok⟩ := bd_some hok
            refine cRVi (ci := 4) (q0 := 0) [.int l573_13] S hK2 (va_Pmid (wa := []) hP) (c_X4_gradesBy l dC dI cI cZ n0 h0 h3 h4 h5 h6 c0 c8 c9 c10 c11 c12 c13 t0 t8 t9 t10 t11 t12 t13 i0 i1 i2 i3 i4 m0 m1 m2 uH uC uT uI uM l573_13 hc44) (lw_V qm_L_174 qi_X4_gradesBy qs_X4_gradesBy qn_X4 qc_X4_gradesBy) hd_X4_gradesBy ⟨rfl, rfl⟩ ⟨Nat.le_of_ble_eq_true rfl, Nat.le_of_ble_eq_true rfl⟩ ⟨by show kc ≤ 600130; omega, by show sc ≤ 7301080; omega⟩ rfl rfl rfl hl.1 (Nat.le_of_ble_eq_true rfl) rfl dL_law_585 ?_
            refine lv_aload_n hx hb dL_law_588 rfl (lv_at hl 1 rfl) ?_
            refine lv_aload_n hx hb dL_law_589 rfl (lv_at hl 1 rfl) ?_
            obtain ⟨v45, hc45, hok⟩ := bd_some hok
            refine cRVi (ci := 4) (q0 := 0) [] S hK2 (va_Pmid (wa := []) hP) (c_X4_kindest l dC dI cI cZ n0 h0 h3 h4 h5 h6 c0 c8 c9 c10 c11 c12 c13 t0 t8 t9 t10 t11 t12 t13 i0 i1 i2 i3 i4 m0 m1 m2 uH uC uT uI uM hc45) (lw_V qm_L_177 qi_X4_kindest qs_X4_kindest qn_X4 qc_X4_kindest) hd_X4_kindest ⟨rfl, rfl⟩ ⟨Nat.le_of_ble_eq_true rfl, Nat.le_of_ble_eq_true rfl⟩ ⟨by show kc ≤ 600130; omega, by show sc ≤ 7301080; omega⟩ rfl rfl rfl hl.1 (Nat.le_of_ble_eq_true rfl) rfl dL_law_590 ?_
            obtain ⟨v46, hc46, hok⟩ := bd_some hok
            refine cRVi (ci := 4) (q0 := 0) [.int v45] S hK2 (va_Pmid (wa := []) hP) (c_X4_gradesBy l dC dI cI cZ n0 h0 h3 h4 h5 h6 c0 c8 c9 c10 c11 c12 c13 t0 t8 t9 t10 t11 t12 t13 i0 i1 i2 i3 i4 m0 m1 m2 uH uC uT uI uM v45 hc46) (lw_V qm_L_174 qi_X4_gradesBy qs_X4_gradesBy qn_X4 qc_X4_gradesBy) hd_X4_gradesBy ⟨rfl, rfl⟩ ⟨Nat.le_of_ble_eq_true rfl, Nat.le_of_ble_eq_true rfl⟩ ⟨by show kc ≤ 600130; omega, by show sc ≤ 7301080; omega⟩ rfl rfl rfl hl.1 (Nat.le_of_ble_eq_true rfl) rfl dL_law_593 ?_
            refine lv_icmp_gt (tgt := 613) hx hb dL_law_596 (by decide) (fun hc => ?_) (fun hc => ?_)
            · have hok := ip hok hc
              refine lv_iconst (v := (0 : Int32)) hx hb dL_law_613 (by decide) ?_
              cases hok
            · have hok := iq hok hc
              refine lv_aload_n hx hb dL_law_599 rfl (lv_at hl 1 rfl) ?_
              refine lv_iload hx hb dL_law_600 (lv_at hl 9 rfl) ?_
              obtain ⟨v47, hc47, hok⟩ := bd_some hok
              refine cRVi (ci := 4) (q0 := 0) [.int l573_13] S hK2 (va_Pmid (wa := []) hP) (c_X4_gradesBy l dC dI cI cZ n0 h0 h3 h4 h5 h6 c0 c8 c9 c10 c11 c12 c13 t0 t8 t9 t10 t11 t12 t13 i0 i1 i2 i3 i4 m0 m1 m2 uH uC uT uI uM l573_13 hc47) (lw_V qm_L_174 qi_X4_gradesBy qs_X4_gradesBy qn_X4 qc_X4_gradesBy) hd_X4_gradesBy ⟨rfl, rfl⟩ ⟨Nat.le_of_ble_eq_true rfl, Nat.le_of_ble_eq_true rfl⟩ ⟨by show kc ≤ 600130; omega, by show sc ≤ 7301080; omega⟩ rfl rfl rfl hl.1 (Nat.le_of_ble_eq_true rfl) rfl dL_law_602 ?_
              refine lv_bipush (v := (10 : Int32)) hx hb dL_law_605 (by decide) ?_
              refine lv_iload hx hb dL_law_607 (lv_at hl 5 rfl) ?_
              refine lv_imul hx hb dL_law_609 ?_
              refine lv_icmp_le (tgt := 615) hx hb dL_law_610 (by decide) (fun hc => ?_) (fun hc => ?_)
              · have hok := ip hok hc
                refine lv_iinc (v := (l573_13 + 1)) (lv' := [(13, .int (l573_13 + 1)), (0, .ref b), (1, .ref n0), (2, .ref g0), (3, .int l573_3), (5, .int l573_5), (6, .int l573_6), (7, .int l573_7), (10, .ref q573_0), (11, .ref q573_1)]) hx hb dL_law_615 hl (k := 9) rfl rfl (by decide) rfl (fun ls hl => ?_)
                refine lv_goto (tgt := 573) hx hb dL_law_618 (by decide) ?_
                exact ih573 g7 g8 g9 g10 g11 g12 G9 G10 G11 G12 uH uC uT uI uM uG q573_0 f573_0 n573_0 q573_1 f573_1 n573_1 l573_3 l573_5 l573_6 l573_7 (l573_13 + 1) kc sc (by omega) (by omega) _ _ hP hD hS _ (lv_sub hl [1, 2, 3, 4, 5, 6, 7, 8, 9, 0] rfl) hok
              · have hok := iq hok hc
                refine lv_iconst (v := (0 : Int32)) hx hb dL_law_613 (by decide) ?_
                cases hok
      have L359 : ∀ n359 : Nat, ∀ (g7 : Nat) (g8 : Nat) (g9 : Nat) (g10 : Nat) (g11 : Nat) (g12 : Nat) (G9 : (Nat → Nat)) (G10 : (Nat → Nat)) (G11 : (Nat → Nat)) (G12 : (Nat → Nat)) (uH : tX1) (uC : tX0) (uT : tX0) (uI : tX2) (uM : tX3) (uG : tX5) (q359_0 : Nat) (f359_0 : (Nat → Int32)) (n359_0 : Nat) (q359_1 : Nat) (f359_1 : (Nat → Int32)) (n359_1 : Nat) (l359_3 : Int32) (l359_5 : Int32) (l359_6 : Int32) (l359_7 : Int32) (l359_13 : Int32) (kc sc : Nat) (hkc : kc + 4 + 128 * n22 + 1 ≤ 600130) (hsc : sc + 159 + 8418 * n22 + 8 ≤ 7301080) (H : Heap) (locs : List Loc) (hP : va_P (dC, dI) vwCl ((wN cI cZ n0 h0 h3 h4 h5 h6 c0 c8 c9 c10 c11 c12 c13 t0 t8 t9 t10 t11 t12 t13 i0 i1 i2 i3 i4 m0 m1 m2 uH uC uT uI uM) ++ (wX5 cI cZ cJ g0 g7 g8 g9 g10 g11 g12 G9 G10 G11 G12 uG ++ [(q359_0, .inl (cI, n359_0, .inl f359_0)), (q359_1, .inl (cZ, n359_1, .inl f359_1))])) H) (hD : va_D A ((wN cI cZ n0 h0 h3 h4 h5 h6 c0 c8 c9 c10 c11 c12 c13 t0 t8 t9 t10 t11 t12 t13 i0 i1 i2 i3 i4 m0 m1 m2 uH uC uT uI uM) ++ (wX5 cI cZ cJ g0 g7 g8 g9 g10 g11 g12 G9 G10 G11 G12 uG ++ [(q359_0, .inl (cI, n359_0, .inl f359_0)), (q359_1, .inl (cZ, n359_1, .inl f359_1))]))) (hS : va_S A s.heap H locs) (ls : Array Slot) (hl : lv_has ls 27 [(0, .ref b), (1, .ref n0), (2, .ref g0), (3, .int l359_3), (5, .int l359_5), (6, .int l359_6), (7, .int l359_7), (10, .ref q359_0), (11, .ref q359_1), (13, .int l359_13)]) (hok : p_L_law_L359 xv Lc (p_L_law_L22 xv Lc n22) n359 uH uC uT uI uM uG f359_0 n359_0 f359_1 n359_1 l359_3 l359_5 l359_6 l359_7 l359_13 = some z), W p l e room_1 s m #[Value.ref b] below meth c H locs kc sc (lw_Z below #[Value.ref b] s) (F0 m 359 ls []) := by
        intro n359
        induction n359 with
        | zero =>
          intro g7 g8 g9 g10 g11 g12 G9 G10 G11 G12 uH uC uT uI uM uG q359_0 f359_0 n359_0 q359_1 f359_1 n359_1 l359_3 l359_5 l359_6 l359_7 l359_13 kc sc hkc hsc H locs hP hD hS ls hl hok
          rw [p_L_law_L359] at hok
          cases hok
        | succ n359 ih359 =>
          have L500 : ∀ n500 : Nat, ∀ (g7 : Nat) (g8 : Nat) (g9 : Nat) (g10 : Nat) (g11 : Nat) (g12 : Nat) (G9 : (Nat → Nat)) (G10 : (Nat → Nat)) (G11 : (Nat → Nat)) (G12 : (Nat → Nat)) (uH : tX1) (uC : tX0) (uT : tX0) (uI : tX2) (uM : tX3) (uG : tX5) (q500_0 : Nat) (f500_0 : (Nat → Int32)) (n500_0 : Nat) (q500_1 : Nat) (f500_1 : (Nat → Int32)) (n500_1 : Nat) (l500_3 : Int32) (l500_5 : Int32) (l500_6 : Int32) (l500_7 : Int32) (l500_13 : Int32) (l500_16 : Int32) (kc sc : Nat) (hkc : kc + 4 + 128 * n22 + 1 ≤ 600130) (hsc : sc + 159 + 8418 * n22 + 8 ≤ 7301080) (H : Heap) (locs : List Loc) (hP : va_P (dC, dI) vwCl ((wN cI cZ n0 h0 h3 h4 h5 h6 c0 c8 c9 c10 c11 c12 c13 t0 t8 t9 t10 t11 t12 t13 i0 i1 i2 i3 i4 m0 m1 m2 uH uC uT uI uM) ++ (wX5 cI cZ cJ g0 g7 g8 g9 g10 g11 g12 G9 G10 G11 G12 uG ++ [(q500_0, .inl (cI, n500_0, .inl f500_0)), (q500_1, .inl (cZ, n500_1, .inl f500_1))])) H) (hD : va_D A ((wN cI cZ n0 h0 h3 h4 h5 h6 c0 c8 c9 c10 c11 c12 c13 t0 t8 t9 t10 t11 t12 t13 i0 i1 i2 i3 i4 m0 m1 m2 uH uC uT uI uM) ++ (wX5 cI cZ cJ g0 g7 g8 g9 g10 g11 g12 G9 G10 G11 G12 uG ++ [(q500_0, .inl (cI, n500_0, .inl f500_0)), (q500_1, .inl (cZ, n500_1, .inl f500_1))]))) (hS : va_S A s.heap H locs) (ls : Array Slot) (hl : lv_has ls 27 [(0, .ref b), (1, .ref n0), (2, .ref g0), (3, .int l500_3), (5, .int l500_5), (6, .int l500_6), (7, .int l500_7), (10, .ref q500_0), (11, .ref q500_1), (13, .int l500_13), (16, .int l500_16)]) (hok : p_L_law_L500 xv Lc (p_L_law_L22 xv Lc n22) (p_L_law_L359 xv Lc (p_L_law_L22 xv Lc n22) n359) n500 uH uC uT uI uM uG f500_0 n500_0 f500_1 n500_1 l500_3 l500_5 l500_6 l500_7 l500_13 l500_16 = some z), W p l e room_1 s m #[Value.ref b] below meth c H locs kc sc (lw_Z below #[Value.ref b] s) (F0 m 500 ls []) := by
            intro n500
            induction n500 with
            | zero =>
              intro g7 g8 g9 g10 g11 g12 G9 G10 G11 G12 uH uC uT uI uM uG q500_0 f500_0 n500_0 q500_1 f500_1 n500_1 l500_3 l500_5 l500_6 l500_7 l500_13 l500_16 kc sc hkc hsc H locs hP hD hS ls hl hok
              rw [p_L_law_L500] at hok
              cases hok
            | succ n500 ih500 =>
              intro g7 g8 g9 g10 g11 g12 G9 G10 G11 G12 uH uC uT uI uM uG q500_0 f500_0 n500_0 q500_1 f500_1 n500_1 l500_3 l500_5 l500_6 l500_7 l500_13 l500_16 kc sc hkc hsc H locs hP hD hS ls hl hok
              rw [p_L_law_L500] at hok
              refine lv_iload hx hb dL_law_500 (lv_at hl 10 rfl) ?_
              refine lv_aload_n hx hb dL_law_502 rfl (lv_at hl 1 rfl) ?_
              obtain ⟨v62, hc62, hok⟩ := bd_some hok
              refine cRVi (ci := 4) (q0 := 0) [] S hK2 (va_Pmid (wa := []) hP) (c_X4_mirrors l dC dI cI cZ n0 h0 h3 h4 h5 h6 c0 c8 c9 c10 c11 c12 c13 t0 t8 t9 t10 t11 t12 t13 i0 i1 i2 i3 i4 m0 m1 m2 uH uC uT uI uM hc62) (lw_V qm_L_166 qi_X4_mirrors qs_X4_mirrors qn_X4 qc_X4_mirrors) hd_X4_mirrors ⟨rfl, rfl⟩ ⟨Nat.le_of_ble_eq_true rfl, Nat.le_of_ble_eq_true rfl⟩ ⟨by show kc ≤ 600130; omega, by show sc ≤ 7301080; omega⟩ rfl rfl rfl hl.1 (Nat.le_of_ble_eq_true rfl) rfl dL_law_503 ?_
              refine lv_icmp_ge (tgt := 564) hx hb dL_law_506 (by decide) (fun hc => ?_) (fun hc => ?_)
              · have hok := ip hok hc
                refine lv_iinc (v := (l500_13 + 1)) (lv' := [(13, .int (l500_13 + 1)), (0, .ref b), (1, .ref n0), (2, .ref g0), (3, .int l500_3), (5, .int l500_5), (6, .int l500_6), (7, .int l500_7), (10, .ref q500_0), (11, .ref q500_1), (16, .int l500_16)]) hx hb dL_law_564 hl (k := 9) rfl rfl (by decide) rfl (fun ls hl => ?_)
                refine lv_goto (tgt := 359) hx hb dL_law_567 (by decide) ?_
                exact ih359 g7 g8 g9 g10 g11 g12 G9 G10 G11 G12 uH uC uT uI uM uG q500_0 f500_0 n500_0 q500_1 f500_1 n500_1 l500_3 l500_5 l500_6 l500_7 (l500_13 + 1) kc sc (by omega) (by omega) _ _ hP hD hS _ (lv_sub hl [1, 2, 3, 4, 5, 6, 7, 8, 9, 0] rfl) hok
              · have hok := iq hok hc
                refine lv_aload_n hx hb dL_law_509 rfl (lv_at hl 1 rfl) ?_
                refine lv_iload hx hb dL_law_510 (lv_at hl 10 rfl) ?_
                refine lv_iload hx hb dL_law_512 (lv_at hl 9 rfl) ?_
                obtain ⟨v63, hc63, hok⟩ := bd_some hok
                refine cRVi (ci := 4) (q0 := 0) [.int l500_16, .int l500_13] S hK2 (va_Pmid (wa := []) hP) (c_X4_grade l dC dI cI cZ n0 h0 h3 h4 h5 h6 c0 c8 c9 c10 c11 c12 c13 t0 t8 t9 t10 t11 t12 t13 i0 i1 i2 i3 i4 m0 m1 m2 uH uC uT uI uM l500_16 l500_13 hc63) (lw_V qm_L_168 qi_X4_grade qs_X4_grade qn_X4 qc_X4_grade) hd_X4_grade ⟨rfl, rfl⟩ ⟨Nat.le_of_ble_eq_true rfl, Nat.le_of_ble_eq_true rfl⟩ ⟨by show kc ≤ 600130; omega, by show sc ≤ 7301080; omega⟩ rfl rfl rfl hl.1 (Nat.le_of_ble_eq_true rfl) rfl dL_law_514 ?_
                refine lv_if_lt (tgt := 556) hx hb dL_law_517 (by decide) (fun hc => ?_) (fun hc => ?_)
                · have hok := ip hok hc
                  refine lv_iconst (v := (0 : Int32)) hx hb dL_law_556 (by decide) ?_
                  cases hok
                · have hok := iq hok hc
                  refine lv_aload_n hx hb dL_law_520 rfl (lv_at hl 1 rfl) ?_
                  refine lv_iload hx hb dL_law_521 (lv_at hl 10 rfl) ?_
                  refine lv_iload hx hb dL_law_523 (lv_at hl 9 rfl) ?_
                  obtain ⟨v64, hc64, hok⟩ := bd_some hok
                  refine cRVi (ci := 4) (q0 := 0) [.int l500_16, .int l500_13] S hK2 (va_Pmid (wa := []) hP) (c_X4_grade l dC dI cI cZ n0 h0 h3 h4 h5 h6 c0 c8 c9 c10 c11 c12 c13 t0 t8 t9 t10 t11 t12 t13 i0 i1 i2 i3 i4 m0 m1 m2 uH uC uT uI uM l500_16 l500_13 hc64) (lw_V qm_L_168 qi_X4_grade qs_X4_grade qn_X4 qc_X4_grade) hd_X4_grade ⟨rfl, rfl⟩ ⟨Nat.le_of_ble_eq_true rfl, Nat.le_of_ble_eq_true rfl⟩ ⟨by show kc ≤ 600130; omega, by show sc ≤ 7301080; omega⟩ rfl rfl rfl hl.1 (Nat.le_of_ble_eq_true rfl) rfl dL_law_525 ?_
                  refine lv_bipush (v := (10 : Int32)) hx hb dL_law_528 (by decide) ?_
                  refine lv_icmp_gt (tgt := 556) hx hb dL_law_530 (by decide) (fun hc => ?_) (fun hc => ?_)
                  · have hok := ip hok hc
                    refine lv_iconst (v := (0 : Int32)) hx hb dL_law_556 (by decide) ?_
                    cases hok
                  · have hok := iq hok hc
                    refine lv_aload_n hx hb dL_law_533 rfl (lv_at hl 1 rfl) ?_
                    refine lv_iload hx hb dL_law_534 (lv_at hl 10 rfl) ?_
                    refine lv_iload hx hb dL_law_536 (lv_at hl 9 rfl) ?_
                    obtain ⟨v65, hc65, hok⟩ := bd_some hok
                    refine cRVi (ci := 4) (q0 := 0) [.int l500_16, .int l500_13] S hK2 (va_Pmid (wa := []) hP) (c_X4_grade l dC dI cI cZ n0 h0 h3 h4 h5 h6 c0 c8 c9 c10 c11 c12 c13 t0 t8 t9 t10 t11 t12 t13 i0 i1 i2 i3 i4 m0 m1 m2 uH uC uT uI uM l500_16 l500_13 hc65) (lw_V qm_L_168 qi_X4_grade qs_X4_grade qn_X4 qc_X4_grade) hd_X4_grade ⟨rfl, rfl⟩ ⟨Nat.le_of_ble_eq_true rfl, Nat.le_of_ble_eq_true rfl⟩ ⟨by show kc ≤ 600130; omega, by show sc ≤ 7301080; omega⟩ rfl rfl rfl hl.1 (Nat.le_of_ble_eq_true rfl) rfl dL_law_538 ?_
                    refine lv_aload_n hx hb dL_law_541 rfl (lv_at hl 1 rfl) ?_
                    refine lv_iload hx hb dL_law_542 (lv_at hl 10 rfl) ?_
                    refine lv_aload_n hx hb dL_law_544 rfl (lv_at hl 1 rfl) ?_
                    refine lv_iload hx hb dL_law_545 (lv_at hl 10 rfl) ?_
                    obtain ⟨v66, hc66, hok⟩ := bd_some hok
                    refine cRVi (ci := 4) (q0 := 0) [.int l500_16] S hK2 (va_Pmid (wa := []) hP) (c_X4_favouriteOf l dC dI cI cZ n0 h0 h3 h4 h5 h6 c0 c8 c9 c10 c11 c12 c13 t0 t8 t9 t10 t11 t12 t13 i0 i1 i2 i3 i4 m0 m1 m2 uH uC uT uI uM l500_16 hc66) (lw_V qm_L_171 qi_X4_favouriteOf qs_X4_favouriteOf qn_X4 qc_X4_favouriteOf) hd_X4_favouriteOf ⟨rfl, rfl⟩ ⟨Nat.le_of_ble_eq_true rfl, Nat.le_of_ble_eq_true rfl⟩ ⟨by show kc ≤ 600130; omega, by show sc ≤ 7301080; omega⟩ rfl rfl rfl hl.1 (Nat.le_of_ble_eq_true rfl) rfl dL_law_547 ?_
                    obtain ⟨v67, hc67, hok⟩ := bd_some hok
                    refine cRVi (ci := 4) (q0 := 0) [.int l500_16, .int v66] S hK2 (va_Pmid (wa := []) hP) (c_X4_grade l dC dI cI cZ n0 h0 h3 h4 h5 h6 c0 c8 c9 c10 c11 c12 c13 t0 t8 t9 t10 t11 t12 t13 i0 i1 i2 i3 i4 m0 m1 m2 uH uC uT uI uM l500_16 v66 hc67) (lw_V qm_L_168 qi_X4_grade qs_X4_grade qn_X4 qc_X4_grade) hd_X4_grade ⟨rfl, rfl⟩ ⟨Nat.le_of_ble_eq_true rfl, Nat.le_of_ble_eq_true rfl⟩ ⟨by show kc ≤ 600130; omega, by show sc ≤ 7301080; omega⟩ rfl rfl rfl hl.1 (Nat.le_of_ble_eq_true rfl) rfl dL_law_550 ?_
                    refine lv_icmp_le (tgt := 558) hx hb dL_law_553 (by decide) (fun hc => ?_) (fun hc => ?_)
                    · have hok := ip hok hc
                      refine lv_iinc (v := (l500_16 + 1)) (lv' := [(16, .int (l500_16 + 1)), (0, .ref b), (1, .ref n0), (2, .ref g0), (3, .int l500_3), (5, .int l500_5), (6, .int l500_6), (7, .int l500_7), (10, .ref q500_0), (11, .ref q500_1), (13, .int l500_13)]) hx hb dL_law_558 hl (k := 10) rfl rfl (by decide) rfl (fun ls hl => ?_)
                      refine lv_goto (tgt := 500) hx hb dL_law_561 (by decide) ?_
                      exact ih500 g7 g8 g9 g10 g11 g12 G9 G10 G11 G12 uH uC uT uI uM uG q500_0 f500_0 n500_0 q500_1 f500_1 n500_1 l500_3 l500_5 l500_6 l500_7 l500_13 (l500_16 + 1) kc sc (by omega) (by omega) _ _ hP hD hS _ (lv_sub hl [1, 2, 3, 4, 5, 6, 7, 8, 9, 10, 0] rfl) hok
                    · have hok := iq hok hc
                      refine lv_iconst (v := (0 : Int32)) hx hb dL_law_556 (by decide) ?_
                      cases hok
          have L456 : ∀ n456 : Nat, ∀ (g7 : Nat) (g8 : Nat) (g9 : Nat) (g10 : Nat) (g11 : Nat) (g12 : Nat) (G9 : (Nat → Nat)) (G10 : (Nat → Nat)) (G11 : (Nat → Nat)) (G12 : (Nat → Nat)) (uH : tX1) (uC : tX0) (uT : tX0) (uI : tX2) (uM : tX3) (uG : tX5) (q456_0 : Nat) (f456_0 : (Nat → Int32)) (n456_0 : Nat) (q456_1 : Nat) (f456_1 : (Nat → Int32)) (n456_1 : Nat) (l456_3 : Int32) (l456_5 : Int32) (l456_6 : Int32) (l456_7 : Int32) (l456_13 : Int32) (l456_14 : Int32) (l456_16 : Int32) (kc sc : Nat) (hkc : kc + 4 + 128 * n22 + 1 ≤ 600130) (hsc : sc + 159 + 8418 * n22 + 8 ≤ 7301080) (H : Heap) (locs : List Loc) (hP : va_P (dC, dI) vwCl ((wN cI cZ n0 h0 h3 h4 h5 h6 c0 c8 c9 c10 c11 c12 c13 t0 t8 t9 t10 t11 t12 t13 i0 i1 i2 i3 i4 m0 m1 m2 uH uC uT uI uM) ++ (wX5 cI cZ cJ g0 g7 g8 g9 g10 g11 g12 G9 G10 G11 G12 uG ++ [(q456_0, .inl (cI, n456_0, .inl f456_0)), (q456_1, .inl (cZ, n456_1, .inl f456_1))])) H) (hD : va_D A ((wN cI cZ n0 h0 h3 h4 h5 h6 c0 c8 c9 c10 c11 c12 c13 t0 t8 t9 t10 t11 t12 t13 i0 i1 i2 i3 i4 m0 m1 m2 uH uC uT uI uM) ++ (wX5 cI cZ cJ g0 g7 g8 g9 g10 g11 g12 G9 G10 G11 G12 uG ++ [(q456_0, .inl (cI, n456_0, .inl f456_0)), (q456_1, .inl (cZ, n456_1, .inl f456_1))]))) (hS : va_S A s.heap H locs) (ls : Array Slot) (hl : lv_has ls 27 [(0, .ref b), (1, .ref n0), (2, .ref g0), (3, .int l456_3), (5, .int l456_5), (6, .int l456_6), (7, .int l456_7), (10, .ref q456_0), (11, .ref q456_1), (13, .int l456_13), (14, .int l456_14), (16, .int l456_16)]) (hok : p_L_law_L456 xv Lc (p_L_law_L22 xv Lc n22) (p_L_law_L359 xv Lc (p_L_law_L22 xv Lc n22) n359) n456 uH uC uT uI uM uG f456_0 n456_0 f456_1 n456_1 l456_3 l456_5 l456_6 l456_7 l456_13 l456_14 l456_16 = some z), W p l e room_1 s m #[Value.ref b] below meth c H locs kc sc (lw_Z below #[Value.ref b] s) (F0 m 456 ls []) := by
            intro n456
            induction n456 with
            | zero =>
              intro g7 g8 g9 g10 g11 g12 G9 G10 G11 G12 uH uC uT uI uM uG q456_0 f456_0 n456_0 q456_1 f456_1 n456_1 l456_3 l456_5 l456_6 l456_7 l456_13 l456_14 l456_16 kc sc hkc hsc H locs hP hD hS ls hl hok
              rw [p_L_law_L456] at hok
              cases hok
            | succ n456 ih456 =>
              intro g7 g8 g9 g10 g11 g12 G9 G10 G11 G12 uH uC uT uI uM uG q456_0 f456_0 n456_0 q456_1 f456_1 n456_1 l456_3 l456_5 l456_6 l456_7 l456_13 l456_14 l456_16 kc sc hkc hsc H locs hP hD hS ls hl hok
              rw [p_L_law_L456] at hok
              refine lv_iload hx hb dL_law_456 (lv_at hl 11 rfl) ?_
              refine lv_iload hx hb dL_law_458 (lv_at hl 9 rfl) ?_
              refine lv_icmp_ge (tgt := 497) hx hb dL_law_460 (by decide) (fun hc => ?_) (fun hc => ?_)
              · have hok := ip hok hc
                refine lv_iconst (v := (0 : Int32)) hx hb dL_law_497 (by decide) ?_
                refine lv_istore (lv' := [(16, .int (0 : Int32)), (0, .ref b), (1, .ref n0), (2, .ref g0), (3, .int l456_3), (5, .int l456_5), (6, .int l456_6), (7, .int l456_7), (10, .ref q456_0), (11, .ref q456_1), (13, .int l456_13), (14, .int l456_14)]) hx hb dL_law_498 hl (by decide) rfl (fun ls hl => ?_)
                exact L500 200 g7 g8 g9 g10 g11 g12 G9 G10 G11 G12 uH uC uT uI uM uG q456_0 f456_0 n456_0 q456_1 f456_1 n456_1 l456_3 l456_5 l456_6 l456_7 l456_13 (0 : Int32) kc sc (by omega) (by omega) _ _ hP hD hS _ (lv_sub hl [1, 2, 3, 4, 5, 6, 7, 8, 9, 10, 0] rfl) hok
              · have hok := iq hok hc
                refine lv_aload_n hx hb dL_law_463 rfl (lv_at hl 1 rfl) ?_
                refine lv_iload hx hb dL_law_464 (lv_at hl 11 rfl) ?_
                obtain ⟨v57, hc57, hok⟩ := bd_some hok
                refine cRVi (ci := 4) (q0 := 0) [.int l456_16] S hK2 (va_Pmid (wa := []) hP) (c_X4_floorIn l dC dI cI cZ n0 h0 h3 h4 h5 h6 c0 c8 c9 c10 c11 c12 c13 t0 t8 t9 t10 t11 t12 t13 i0 i1 i2 i3 i4 m0 m1 m2 uH uC uT uI uM l456_16 hc57) (lw_V qm_L_145 qi_X4_floorIn qs_X4_floorIn qn_X4 qc_X4_floorIn) hd_X4_floorIn ⟨rfl, rfl⟩ ⟨Nat.le_of_ble_eq_true rfl, Nat.le_of_ble_eq_true rfl⟩ ⟨by show kc ≤ 600130; omega, by show sc ≤ 7301080; omega⟩ rfl rfl rfl hl.1 (Nat.le_of_ble_eq_true rfl) rfl dL_law_466 ?_
                refine lv_iload hx hb dL_law_469 (lv_at hl 10 rfl) ?_
                refine lv_icmp_ne (tgt := 491) hx hb dL_law_471 (by decide) (fun hc => ?_) (fun hc => ?_)
                · have hok := iq hok hc
                  refine lv_iinc (v := (l456_16 + 1)) (lv' := [(16, .int (l456_16 + 1)), (0, .ref b), (1, .ref n0), (2, .ref g0), (3, .int l456_3), (5, .int l456_5), (6, .int l456_6), (7, .int l456_7), (10, .ref q456_0), (11, .ref q456_1), (13, .int l456_13), (14, .int l456_14)]) hx hb dL_law_491 hl (k := 11) rfl rfl (by decide) rfl (fun ls hl => ?_)
                  refine lv_goto (tgt := 456) hx hb dL_law_494 (by decide) ?_
                  exact ih456 g7 g8 g9 g10 g11 g12 G9 G10 G11 G12 uH uC uT uI uM uG q456_0 f456_0 n456_0 q456_1 f456_1 n456_1 l456_3 l456_5 l456_6 l456_7 l456_13 l456_14 (l456_16 + 1) kc sc (by omega) (by omega) _ _ hP hD hS _ (lv_sub hl [1, 2, 3, 4, 5, 6, 7, 8, 9, 10, 11, 0] rfl) hok
                · have hok := ip hok hc
                  refine lv_aload_n hx hb dL_law_474 rfl (lv_at hl 1 rfl) ?_
                  refine lv_iload hx hb dL_law_475 (lv_at hl 11 rfl) ?_
                  obtain ⟨v58, hc58, hok⟩ := bd_some hok
                  refine cRVi (ci := 4) (q0 := 0) [.int l456_16] S hK2 (va_Pmid (wa := []) hP) (c_X4_paragraphIn l dC dI cI cZ n0 h0 h3 h4 h5 h6 c0 c8 c9 c10 c11 c12 c13 t0 t8 t9 t10 t11 t12 t13 i0 i1 i2 i3 i4 m0 m1 m2 uH uC uT uI uM l456_16 hc58) (lw_V qm_L_148 qi_X4_paragraphIn qs_X4_paragraphIn qn_X4 qc_X4_paragraphIn) hd_X4_paragraphIn ⟨rfl, rfl⟩ ⟨Nat.le_of_ble_eq_true rfl, Nat.le_of_ble_eq_true rfl⟩ ⟨by show kc ≤ 600130; omega, by show sc ≤ 7301080; omega⟩ rfl rfl rfl hl.1 (Nat.le_of_ble_eq_true rfl) rfl dL_law_477 ?_
                  refine lv_aload_n hx hb dL_law_480 rfl (lv_at hl 1 rfl) ?_
                  refine lv_iload hx hb dL_law_481 (lv_at hl 9 rfl) ?_
                  obtain ⟨v59, hc59, hok⟩ := bd_some hok
                  refine cRVi (ci := 4) (q0 := 0) [.int l456_13] S hK2 (va_Pmid (wa := []) hP) (c_X4_paragraphIn l dC dI cI cZ n0 h0 h3 h4 h5 h6 c0 c8 c9 c10 c11 c12 c13 t0 t8 t9 t10 t11 t12 t13 i0 i1 i2 i3 i4 m0 m1 m2 uH uC uT uI uM l456_13 hc59) (lw_V qm_L_148 qi_X4_paragraphIn qs_X4_paragraphIn qn_X4 qc_X4_paragraphIn) hd_X4_paragraphIn ⟨rfl, rfl⟩ ⟨Nat.le_of_ble_eq_true rfl, Nat.le_of_ble_eq_true rfl⟩ ⟨by show kc ≤ 600130; omega, by show sc ≤ 7301080; omega⟩ rfl rfl rfl hl.1 (Nat.le_of_ble_eq_true rfl) rfl dL_law_483 ?_
                  refine lv_icmp_lt (tgt := 491) hx hb dL_law_486 (by decide) (fun hc => ?_) (fun hc => ?_)
                  · have hok := ip hok hc
                    refine lv_iinc (v := (l456_16 + 1)) (lv' := [(16, .int (l456_16 + 1)), (0, .ref b), (1, .ref n0), (2, .ref g0), (3, .int l456_3), (5, .int l456_5), (6, .int l456_6), (7, .int l456_7), (10, .ref q456_0), (11, .ref q456_1), (13, .int l456_13), (14, .int l456_14)]) hx hb dL_law_491 hl (k := 11) rfl rfl (by decide) rfl (fun ls hl => ?_)
                    refine lv_goto (tgt := 456) hx hb dL_law_494 (by decide) ?_
                    exact ih456 g7 g8 g9 g10 g11 g12 G9 G10 G11 G12 uH uC uT uI uM uG q456_0 f456_0 n456_0 q456_1 f456_1 n456_1 l456_3 l456_5 l456_6 l456_7 l456_13 l456_14 (l456_16 + 1) kc sc (by omega) (by omega) _ _ hP hD hS _ (lv_sub hl [1, 2, 3, 4, 5, 6, 7, 8, 9, 10, 11, 0] rfl) hok
                  · have hok := iq hok hc
                    refine lv_iconst (v := (0 : Int32)) hx hb dL_law_489 (by decide) ?_
                    cases hok
          have J434 : ∀ (g7 : Nat) (g8 : Nat) (g9 : Nat) (g10 : Nat) (g11 : Nat) (g12 : Nat) (G9 : (Nat → Nat)) (G10 : (Nat → Nat)) (G11 : (Nat → Nat)) (G12 : (Nat → Nat)) (uH : tX1) (uC : tX0) (uT : tX0) (uI : tX2) (uM : tX3) (uG : tX5) (q434_0 : Nat) (f434_0 : (Nat → Int32)) (n434_0 : Nat) (q434_1 : Nat) (f434_1 : (Nat → Int32)) (n434_1 : Nat) (l434_3 : Int32) (l434_5 : Int32) (l434_6 : Int32) (l434_7 : Int32) (l434_13 : Int32) (l434_14 : Int32) (kc sc : Nat) (hkc : kc + 4 + 128 * n22 + 1 ≤ 600130) (hsc : sc + 159 + 8418 * n22 + 8 ≤ 7301080) (H : Heap) (locs : List Loc) (hP : va_P (dC, dI) vwCl ((wN cI cZ n0 h0 h3 h4 h5 h6 c0 c8 c9 c10 c11 c12 c13 t0 t8 t9 t10 t11 t12 t13 i0 i1 i2 i3 i4 m0 m1 m2 uH uC uT uI uM) ++ (wX5 cI cZ cJ g0 g7 g8 g9 g10 g11 g12 G9 G10 G11 G12 uG ++ [(q434_0, .inl (cI, n434_0, .inl f434_0)), (q434_1, .inl (cZ, n434_1, .inl f434_1))])) H) (hD : va_D A ((wN cI cZ n0 h0 h3 h4 h5 h6 c0 c8 c9 c10 c11 c12 c13 t0 t8 t9 t10 t11 t12 t13 i0 i1 i2 i3 i4 m0 m1 m2 uH uC uT uI uM) ++ (wX5 cI cZ cJ g0 g7 g8 g9 g10 g11 g12 G9 G10 G11 G12 uG ++ [(q434_0, .inl (cI, n434_0, .inl f434_0)), (q434_1, .inl (cZ, n434_1, .inl f434_1))]))) (hS : va_S A s.heap H locs) (ls : Array Slot) (hl : lv_has ls 27 [(0, .ref b), (1, .ref n0), (2, .ref g0), (3, .int l434_3), (5, .int l434_5), (6, .int l434_6), (7, .int l434_7), (10, .ref q434_0), (11, .ref q434_1), (13, .int l434_13), (14, .int l434_14)]) (hok : p_L_law_J434 xv Lc (p_L_law_L22 xv Lc n22) (p_L_law_L359 xv Lc (p_L_law_L22 xv Lc n22) n359) uH uC uT uI uM uG f434_0 n434_0 f434_1 n434_1 l434_3 l434_5 l434_6 l434_7 l434_13 l434_14 = some z), W p l e room_1 s m #[Value.ref b] below meth c H locs kc sc (lw_Z below #[Value.ref b] s) (F0 m 434 ls []) := by
            intro g7 g8 g9 g10 g11 g12 G9 G10 G11 G12 uH uC uT uI uM uG q434_0 f434_0 n434_0 q434_1 f434_1 n434_1 l434_3 l434_5 l434_6 l434_7 l434_13 l434_14 kc sc hkc hsc H locs hP hD hS ls hl hok
            unfold p_L_law_J434 at hok
            refine lv_aload_n hx hb dL_law_434 rfl (lv_at hl 1 rfl) ?_
            refine lv_iload hx hb dL_law_435 (lv_at hl 9 rfl) ?_
            obtain ⟨v48, hc48, hok⟩ := bd_some hok
            refine cRVi (ci := 4) (q0 := 0) [.int l434_13] S hK2 (va_Pmid (wa := []) hP) (c_X4_thrillIn l dC dI cI cZ n0 h0 h3 h4 h5 h6 c0 c8 c9 c10 c11 c12 c13 t0 t8 t9 t10 t11 t12 t13 i0 i1 i2 i3 i4 m0 m1 m2 uH uC uT uI uM l434_13 hc48) (lw_V qm_L_154 qi_X4_thrillIn qs_X4_thrillIn qn_X4 qc_X4_thrillIn) hd_X4_thrillIn ⟨rfl, rfl⟩ ⟨Nat.le_of_ble_eq_true rfl, Nat.le_of_ble_eq_true rfl⟩ ⟨by show kc ≤ 600130; omega, by show sc ≤ 7301080; omega⟩ rfl rfl rfl hl.1 (Nat.le_of_ble_eq_true rfl) rfl dL_law_437 ?_
            refine lv_aload_n hx hb dL_law_440 rfl (lv_at hl 1 rfl) ?_
            refine lv_aload_n hx hb dL_law_441 rfl (lv_at hl 1 rfl) ?_
            obtain ⟨v49, hc49, hok⟩ := bd_some hok
            refine cRVi (ci := 4) (q0 := 0) [] S hK2 (va_Pmid (wa := []) hP) (c_X4_mostThrilling l dC dI cI cZ n0 h0 h3 h4 h5 h6 c0 c8 c9 c10 c11 c12 c13 t0 t8 t9 t10 t11 t12 t13 i0 i1 i2 i3 i4 m0 m1 m2 uH uC uT uI uM hc49) (lw_V qm_L_163 qi_X4_mostThrilling qs_X4_mostThrilling qn_X4 qc_X4_mostThrilling) hd_X4_mostThrilling ⟨rfl, rfl⟩ ⟨Nat.le_of_ble_eq_true rfl, Nat.le_of_ble_eq_true rfl⟩ ⟨by show kc ≤ 600130; omega, by show sc ≤ 7301080; omega⟩ rfl rfl rfl hl.1 (Nat.le_of_ble_eq_true rfl) rfl dL_law_442 ?_
            obtain ⟨v50, hc50, hok⟩ := bd_some hok
            refine cRVi (ci := 4) (q0 := 0) [.int v49] S hK2 (va_Pmid (wa := []) hP) (c_X4_thrillIn l dC dI cI cZ n0 h0 h3 h4 h5 h6 c0 c8 c9 c10 c11 c12 c13 t0 t8 t9 t10 t11 t12 t13 i0 i1 i2 i3 i4 m0 m1 m2 uH uC uT uI uM v49 hc50) (lw_V qm_L_154 qi_X4_thrillIn qs_X4_thrillIn qn_X4 qc_X4_thrillIn) hd_X4_thrillIn ⟨rfl, rfl⟩ ⟨Nat.le_of_ble_eq_true rfl, Nat.le_of_ble_eq_true rfl⟩ ⟨by show kc ≤ 600130; omega, by show sc ≤ 7301080; omega⟩ rfl rfl rfl hl.1 (Nat.le_of_ble_eq_true rfl) rfl dL_law_445 ?_
            refine lv_icmp_le (tgt := 453) hx hb dL_law_448 (by decide) (fun hc => ?_) (fun hc => ?_)
            · have hok := ip hok hc
              refine lv_iconst (v := (0 : Int32)) hx hb dL_law_453 (by decide) ?_
              refine lv_istore (lv' := [(16, .int (0 : Int32)), (0, .ref b), (1, .ref n0), (2, .ref g0), (3, .int l434_3), (5, .int l434_5), (6, .int l434_6), (7, .int l434_7), (10, .ref q434_0), (11, .ref q434_1), (13, .int l434_13), (14, .int l434_14)]) hx hb dL_law_454 hl (by decide) rfl (fun ls hl => ?_)
              exact L456 200 g7 g8 g9 g10 g11 g12 G9 G10 G11 G12 uH uC uT uI uM uG q434_0 f434_0 n434_0 q434_1 f434_1 n434_1 l434_3 l434_5 l434_6 l434_7 l434_13 l434_14 (0 : Int32) kc sc (by omega) (by omega) _ _ hP hD hS _ (lv_sub hl [1, 2, 3, 4, 5, 6, 7, 8, 9, 10, 11, 0] rfl) hok
            · have hok := iq hok hc
              refine lv_iconst (v := (0 : Int32)) hx hb dL_law_451 (by decide) ?_
              cases hok
          intro g7 g8 g9 g10 g11 g12 G9 G10 G11 G12 uH uC uT uI uM uG q359_0 f359_0 n359_0 q359_1 f359_1 n359_1 l359_3 l359_5 l359_6 l359_7 l359_13 kc sc hkc hsc H locs hP hD hS ls hl hok
          rw [p_L_law_L359] at hok
          refine lv_iload hx hb dL_law_359 (lv_at hl 9 rfl) ?_
          refine lv_iload hx hb dL_law_361 (lv_at hl 5 rfl) ?_
          refine lv_icmp_ge (tgt := 570) hx hb dL_law_363 (by decide) (fun hc => ?_) (fun hc => ?_)
          · have hok := ip hok hc
            refine lv_iconst (v := (0 : Int32)) hx hb dL_law_570 (by decide) ?_
            refine lv_istore (lv' := [(13, .int (0 : Int32)), (0, .ref b), (1, .ref n0), (2, .ref g0), (3, .int l359_3), (5, .int l359_5), (6, .int l359_6), (7, .int l359_7), (10, .ref q359_0), (11, .ref q359_1)]) hx hb dL_law_571 hl (by decide) rfl (fun ls hl => ?_)
            exact L573 200 g7 g8 g9 g10 g11 g12 G9 G10 G11 G12 uH uC uT uI uM uG q359_0 f359_0 n359_0 q359_1 f359_1 n359_1 l359_3 l359_5 l359_6 l359_7 (0 : Int32) kc sc (by omega) (by omega) _ _ hP hD hS _ (lv_sub hl [1, 2, 3, 4, 5, 6, 7, 8, 9, 0] rfl) hok
          · have hok := iq hok hc
            refine lv_aload_n hx hb dL_law_366 rfl (lv_at hl 1 rfl) ?_
            refine lv_iload hx hb dL_law_367 (lv_at hl 9 rfl) ?_
            obtain ⟨v27, hc27, hok⟩ := bd_some hok
            refine cRVi (ci := 4) (q0 := 0) [.int l359_13] S hK2 (va_Pmid (wa := []) hP) (c_X4_floorIn l dC dI cI cZ n0 h0 h3 h4 h5 h6 c0 c8 c9 c10 c11 c12 c13 t0 t8 t9 t10 t11 t12 t13 i0 i1 i2 i3 i4 m0 m1 m2 uH uC uT uI uM l359_13 hc27) (lw_V qm_L_145 qi_X4_floorIn qs_X4_floorIn qn_X4 qc_X4_floorIn) hd_X4_floorIn ⟨rfl, rfl⟩ ⟨Nat.le_of_ble_eq_true rfl, Nat.le_of_ble_eq_true rfl⟩ ⟨by show kc ≤ 600130; omega, by show sc ≤ 7301080; omega⟩ rfl rfl rfl hl.1 (Nat.le_of_ble_eq_true rfl) rfl dL_law_369 ?_
            refine lv_istore (lv' := [(14, .int v27), (0, .ref b), (1, .ref n0), (2, .ref g0), (3, .int l359_3), (5, .int l359_5), (6, .int l359_6), (7, .int l359_7), (10, .ref q359_0), (11, .ref q359_1), (13, .int l359_13)]) hx hb dL_law_372 hl (by decide) rfl (fun ls hl => ?_)
            refine lv_aload_n hx hb dL_law_374 rfl (lv_at hl 2 rfl) ?_
            refine lv_iload hx hb dL_law_375 (lv_at hl 0 rfl) ?_
            refine lv_aload_n hx hb dL_law_377 rfl (lv_at hl 2 rfl) ?_
            refine lv_iload hx hb dL_law_378 (lv_at hl 10 rfl) ?_
            obtain ⟨v28, hc28, hok⟩ := bd_some hok
            refine cRVi (ci := 4) (q0 := 0) [.int l359_13] S hK2 (va_Pmid (wa := []) hP) (c_X4_paragraphIn l dC dI cI cZ n0 h0 h3 h4 h5 h6 c0 c8 c9 c10 c11 c12 c13 t0 t8 t9 t10 t11 t12 t13 i0 i1 i2 i3 i4 m0 m1 m2 uH uC uT uI uM l359_13 hc28) (lw_V qm_L_148 qi_X4_paragraphIn qs_X4_paragraphIn qn_X4 qc_X4_paragraphIn) hd_X4_paragraphIn ⟨rfl, rfl⟩ ⟨Nat.le_of_ble_eq_true rfl, Nat.le_of_ble_eq_true rfl⟩ ⟨by show kc ≤ 600130; omega, by show sc ≤ 7301080; omega⟩ rfl rfl rfl hl.1 (Nat.le_of_ble_eq_true rfl) rfl dL_law_380 ?_
            obtain ⟨v29, hc29, hok⟩ := bd_some hok
            refine cRVi (ci := 4) (q0 := 0) [.int v27, .int v28] S hK2 (va_Pmid (wa := []) hP) (c_X4_thrillOf l dC dI cI cZ n0 h0 h3 h4 h5 h6 c0 c8 c9 c10 c11 c12 c13 t0 t8 t9 t10 t11 t12 t13 i0 i1 i2 i3 i4 m0 m1 m2 uH uC uT uI uM v27 v28 hc29) (lw_V qm_L_151 qi_X4_thrillOf qs_X4_thrillOf qn_X4 qc_X4_thrillOf) hd_X4_thrillOf ⟨rfl, rfl⟩ ⟨Nat.le_of_ble_eq_true rfl, Nat.le_of_ble_eq_true rfl⟩ ⟨by show kc ≤ 600130; omega, by show sc ≤ 7301080; omega⟩ rfl rfl rfl hl.1 (Nat.le_of_ble_eq_true rfl) rfl dL_law_383 ?_
            refine lv_istore (lv' := [(15, .int v29), (14, .int v27), (0, .ref b), (1, .ref n0), (2, .ref g0), (3, .int l359_3), (5, .int l359_5), (6, .int l359_6), (7, .int l359_7), (10, .ref q359_0), (11, .ref q359_1), (13, .int l359_13)]) hx hb dL_law_386 hl (by decide) rfl (fun ls hl => ?_)
            refine lv_aload_n hx hb dL_law_388 rfl (lv_at hl 3 rfl) ?_
            refine lv_iload hx hb dL_law_389 (lv_at hl 11 rfl) ?_
            obtain ⟨v30, hc30, hok⟩ := bd_some hok
            refine cRVi (ci := 4) (q0 := 0) [.int l359_13] S hK2 (va_Pmid (wa := []) hP) (c_X4_thrillIn l dC dI cI cZ n0 h0 h3 h4 h5 h6 c0 c8 c9 c10 c11 c12 c13 t0 t8 t9 t10 t11 t12 t13 i0 i1 i2 i3 i4 m0 m1 m2 uH uC uT uI uM l359_13 hc30) (lw_V qm_L_154 qi_X4_thrillIn qs_X4_thrillIn qn_X4 qc_X4_thrillIn) hd_X4_thrillIn ⟨rfl, rfl⟩ ⟨Nat.le_of_ble_eq_true rfl, Nat.le_of_ble_eq_true rfl⟩ ⟨by show kc ≤ 600130; omega, by show sc ≤ 7301080; omega⟩ rfl rfl rfl hl.1 (Nat.le_of_ble_eq_true rfl) rfl dL_law_391 ?_
            refine lv_iload hx hb dL_law_394 (lv_at hl 0 rfl) ?_
            refine lv_icmp_lt (tgt := 451) hx hb dL_law_396 (by decide) (fun hc => ?_) (fun hc => ?_)
            · have hok := ip hok hc
              refine lv_iconst (v := (0 : Int32)) hx hb dL_law_451 (by decide) ?_
              cases hok
            · have hok := iq hok hc
              refine lv_aload_n hx hb dL_law_399 rfl (lv_at hl 3 rfl) ?_
              refine lv_iload hx hb dL_law_400 (lv_at hl 11 rfl) ?_
              obtain ⟨v31, hc31, hok⟩ := bd_some hok
              refine cRVi (ci := 4) (q0 := 0) [.int l359_13] S hK2 (va_Pmid (wa := []) hP) (c_X4_hourIn l dC dI cI cZ n0 h0 h3 h4 h5 h6 c0 c8 c9 c10 c11 c12 c13 t0 t8 t9 t10 t11 t12 t13 i0 i1 i2 i3 i4 m0 m1 m2 uH uC uT uI uM l359_13 hc31) (lw_V qm_L_157 qi_X4_hourIn qs_X4_hourIn qn_X4 qc_X4_hourIn) hd_X4_hourIn ⟨rfl, rfl⟩ ⟨Nat.le_of_ble_eq_true rfl, Nat.le_of_ble_eq_true rfl⟩ ⟨by show kc ≤ 600130; omega, by show sc ≤ 7301080; omega⟩ rfl rfl rfl hl.1 (Nat.le_of_ble_eq_true rfl) rfl dL_law_402 ?_
              refine lv_aload_n hx hb dL_law_405 rfl (lv_at hl 3 rfl) ?_
              obtain ⟨v32, hc32, hok⟩ := bd_some hok
              refine cRVi (ci := 4) (q0 := 0) [] S hK2 (va_Pmid (wa := []) hP) (c_X4_hours l dC dI cI cZ n0 h0 h3 h4 h5 h6 c0 c8 c9 c10 c11 c12 c13 t0 t8 t9 t10 t11 t12 t13 i0 i1 i2 i3 i4 m0 m1 m2 uH uC uT uI uM hc32) (lw_V qm_L_160 qi_X4_hours qs_X4_hours qn_X4 qc_X4_hours) hd_X4_hours ⟨rfl, rfl⟩ ⟨Nat.le_of_ble_eq_true rfl, Nat.le_of_ble_eq_true rfl⟩ ⟨by show kc ≤ 600130; omega, by show sc ≤ 7301080; omega⟩ rfl rfl rfl hl.1 (Nat.le_of_ble_eq_true rfl) rfl dL_law_406 ?_
              refine lv_icmp_ge (tgt := 451) hx hb dL_law_409 (by decide) (fun hc => ?_) (fun hc => ?_)
              · have hok := ip hok hc
                refine lv_iconst (v := (0 : Int32)) hx hb dL_law_451 (by decide) ?_
                cases hok
              · have hok := iq hok hc
                refine lv_iload hx hb dL_law_412 (lv_at hl 11 rfl) ?_
                refine lv_if_le (tgt := 434) hx hb dL_law_414 (by decide) (fun hc => ?_) (fun hc => ?_)
                · have hok := ip hok hc
                  exact J434 g7 g8 g9 g10 g11 g12 G9 G10 G11 G12 uH uC uT uI uM uG q359_0 f359_0 n359_0 q359_1 f359_1 n359_1 l359_3 l359_5 l359_6 l359_7 l359_13 v27 kc sc (by omega) (by omega) _ _ hP hD hS _ (lv_sub hl [2, 3, 4, 5, 6, 7, 8, 9, 10, 11, 1] rfl) hok
                · have hok := iq hok hc
                  refine lv_aload_n hx hb dL_law_417 rfl (lv_at hl 3 rfl) ?_
                  refine lv_iload hx hb dL_law_418 (lv_at hl 11 rfl) ?_
                  obtain ⟨v33, hc33, hok⟩ := bd_some hok
                  refine cRVi (ci := 4) (q0 := 0) [.int l359_13] S hK2 (va_Pmid (wa := []) hP) (c_X4_hourIn l dC dI cI cZ n0 h0 h3 h4 h5 h6 c0 c8 c9 c10 c11 c12 c13 t0 t8 t9 t10 t11 t12 t13 i0 i1 i2 i3 i4 m0 m1 m2 uH uC uT uI uM l359_13 hc33) (lw_V qm_L_157 qi_X4_hourIn qs_X4_hourIn qn_X4 qc_X4_hourIn) hd_X4_hourIn ⟨rfl, rfl⟩ ⟨Nat.le_of_ble_eq_true rfl, Nat.le_of_ble_eq_true rfl⟩ ⟨by show kc ≤ 600130; omega, by show sc ≤ 7301080; omega⟩ rfl rfl rfl hl.1 (Nat.le_of_ble_eq_true rfl) rfl dL_law_420 ?_
                  refine lv_aload_n hx hb dL_law_423 rfl (lv_at hl 3 rfl) ?_
                  refine lv_iload hx hb dL_law_424 (lv_at hl 11 rfl) ?_
                  refine lv_iconst (v := (1 : Int32)) hx hb dL_law_426 (by decide) ?_
                  refine lv_isub hx hb dL_law_427 ?_
                  obtain ⟨v34, hc34, hok⟩ := bd_some hok
                  refine cRVi (ci := 4) (q0 := 0) [.int (l359_13 - (1 : Int32))] S hK2 (va_Pmid (wa := []) hP) (c_X4_hourIn l dC dI cI cZ n0 h0 h3 h4 h5 h6 c0 c8 c9 c10 c11 c12 c13 t0 t8 t9 t10 t11 t12 t13 i0 i1 i2 i3 i4 m0 m1 m2 uH uC uT uI uM (l359_13 - (1 : Int32)) hc34) (lw_V qm_L_157 qi_X4_hourIn qs_X4_hourIn qn_X4 qc_X4_hourIn) hd_X4_hourIn ⟨rfl, rfl⟩ ⟨Nat.le_of_ble_eq_true rfl, Nat.le_of_ble_eq_true rfl⟩ ⟨by show kc ≤ 600130; omega, by show sc ≤ 7301080; omega⟩ rfl rfl rfl hl.1 (Nat.le_of_ble_eq_true rfl) rfl dL_law_428 ?_
                  refine lv_icmp_le (tgt := 451) hx hb dL_law_431 (by decide) (fun hc => ?_) (fun hc => ?_)
                  · have hok := ip hok hc
                    refine lv_iconst (v := (0 : Int32)) hx hb dL_law_451 (by decide) ?_
                    cases hok
                  · have hok := iq hok hc
                    exact J434 g7 g8 g9 g10 g11 g12 G9 G10 G11 G12 uH uC uT uI uM uG q359_0 f359_0 n359_0 q359_1 f359_1 n359_1 l359_3 l359_5 l359_6 l359_7 l359_13 v27 kc sc (by omega) (by omega) _ _ hP hD hS _ (lv_sub hl [2, 3, 4, 5, 6, 7, 8, 9, 10, 11, 1] rfl) hok
      have L253 : ∀ n253 : Nat, ∀ (g7 : Nat) (g8 : Nat) (g9 : Nat) (g10 : Nat) (g11 : Nat) (g12 : Nat) (G9 : (Nat → Nat)) (G10 : (Nat → Nat)) (G11 : (Nat → Nat)) (G12 : (Nat → Nat)) (uH : tX1) (uC : tX0) (uT : tX0) (uI : tX2) (uM : tX3) (uG : tX5) (q253_0 : Nat) (f253_0 : (Nat → Int32)) (n253_0 : Nat) (q253_1 : Nat) (f253_1 : (Nat → Int32)) (n253_1 : Nat) (l253_3 : Int32) (l253_5 : Int32) (l253_6 : Int32) (l253_7 : Int32) (l253_8 : Int32) (l253_9 : Int32) (l253_12 : Int32) (l253_13 : Int32) (kc sc : Nat) (hkc : kc + 4 + 128 * n22 + 1 ≤ 600130) (hsc : sc + 159 + 8418 * n22 + 8 ≤ 7301080) (H : Heap) (locs : List Loc) (hP : va_P (dC, dI) vwCl ((wN cI cZ n0 h0 h3 h4 h5 h6 c0 c8 c9 c10 c11 c12 c13 t0 t8 t9 t10 t11 t12 t13 i0 i1 i2 i3 i4 m0 m1 m2 uH uC uT uI uM) ++ (wX5 cI cZ cJ g0 g7 g8 g9 g10 g11 g12 G9 G10 G11 G12 uG ++ [(q253_0, .inl (cI, n253_0, .inl f253_0)), (q253_1, .inl (cZ, n253_1, .inl f253_1))])) H) (hD : va_D A ((wN cI cZ n0 h0 h3 h4 h5 h6 c0 c8 c9 c10 c11 c12 c13 t0 t8 t9 t10 t11 t12 t13 i0 i1 i2 i3 i4 m0 m1 m2 uH uC uT uI uM) ++ (wX5 cI cZ cJ g0 g7 g8 g9 g10 g11 g12 G9 G10 G11 G12 uG ++ [(q253_0, .inl (cI, n253_0, .inl f253_0)), (q253_1, .inl (cZ, n253_1, .inl f253_1))]))) (hS : va_S A s.heap H locs) (ls : Array Slot) (hl : lv_has ls 27 [(0, .ref b), (1, .ref n0), (2, .ref g0), (3, .int l253_3), (5, .int l253_5), (6, .int l253_6), (7, .int l253_7), (8, .int l253_8), (9, .int l253_9), (10, .ref q253_0), (11, .ref q253_1), (12, .int l253_12), (13, .int l253_13)]) (hok : p_L_law_L253 xv Lc (p_L_law_L22 xv Lc n22) n253 uH uC uT uI uM uG f253_0 n253_0 f253_1 n253_1 l253_3 l253_5 l253_6 l253_7 l253_8 l253_9 l253_12 l253_13 = some z), W p l e room_1 s m #[Value.ref b] below meth c H locs kc sc (lw_Z below #[Value.ref b] s) (F0 m 253 ls []) := by
        intro n253
        induction n253 with
        | zero =>
          intro g7 g8 g9 g10 g11 g12 G9 G10 G11 G12 uH uC uT uI uM uG q253_0 f253_0 n253_0 q253_1 f253_1 n253_1 l253_3 l253_5 l253_6 l253_7 l253_8 l253_9 l253_12 l253_13 kc sc hkc hsc H locs hP hD hS ls hl hok
          rw [p_L_law_L253] at hok
          cases hok
        | succ n253 ih253 =>
          intro g7 g8 g9 g10 g11 g12 G9 G10 G11 G12 uH uC uT uI uM uG q253_0 f253_0 n253_0 q253_1 f253_1 n253_1 l253_3 l253_5 l253_6 l253_7 l253_8 l253_9 l253_12 l253_13 kc sc hkc hsc H locs hP hD hS ls hl hok
          rw [p_L_law_L253] at hok
          refine lv_iload hx hb dL_law_253 (lv_at hl 12 rfl) ?_
          refine lv_bipush (v := (8 : Int32)) hx hb dL_law_255 (by decide) ?_
          refine lv_icmp_ge (tgt := 277) hx hb dL_law_257 (by decide) (fun hc => ?_) (fun hc => ?_)
          · have hok := ip hok hc
            refine lv_iload hx hb dL_law_277 (lv_at hl 6 rfl) ?_
            refine lv_aload_n hx hb dL_law_279 rfl (lv_at hl 1 rfl) ?_
            obtain ⟨v17, hc17, hok⟩ := bd_some hok
            refine cRVi (ci := 4) (q0 := 0) [] S hK2 (va_Pmid (wa := []) hP) (c_X4_calls l dC dI cI cZ n0 h0 h3 h4 h5 h6 c0 c8 c9 c10 c11 c12 c13 t0 t8 t9 t10 t11 t12 t13 i0 i1 i2 i3 i4 m0 m1 m2 uH uC uT uI uM hc17) (lw_V qm_L_128 qi_X4_calls qs_X4_calls qn_X4 qc_X4_calls) hd_X4_calls ⟨rfl, rfl⟩ ⟨Nat.le_of_ble_eq_true rfl, Nat.le_of_ble_eq_true rfl⟩ ⟨by show kc ≤ 600130; omega, by show sc ≤ 7301080; omega⟩ rfl rfl rfl hl.1 (Nat.le_of_ble_eq_true rfl) rfl dL_law_280 ?_
            refine lv_icmp_ne (tgt := 354) hx hb dL_law_283 (by decide) (fun hc => ?_) (fun hc => ?_)
            · have hok := iq hok hc
              refine lv_iconst (v := (0 : Int32)) hx hb dL_law_354 (by decide) ?_
              cases hok
            · have hok := ip hok hc
              refine lv_iload hx hb dL_law_286 (lv_at hl 8 rfl) ?_
              refine lv_iload hx hb dL_law_288 (lv_at hl 5 rfl) ?_
              refine lv_aload_n hx hb dL_law_290 rfl (lv_at hl 1 rfl) ?_
              obtain ⟨v18, hc18, hok⟩ := bd_some hok
              refine cRVi (ci := 4) (q0 := 0) [] S hK2 (va_Pmid (wa := []) hP) (c_X4_cuts l dC dI cI cZ n0 h0 h3 h4 h5 h6 c0 c8 c9 c10 c11 c12 c13 t0 t8 t9 t10 t11 t12 t13 i0 i1 i2 i3 i4 m0 m1 m2 uH uC uT uI uM hc18) (lw_V qm_L_131 qi_X4_cuts qs_X4_cuts qn_X4 qc_X4_cuts) hd_X4_cuts ⟨rfl, rfl⟩ ⟨Nat.le_of_ble_eq_true rfl, Nat.le_of_ble_eq_true rfl⟩ ⟨by show kc ≤ 600130; omega, by show sc ≤ 7301080; omega⟩ rfl rfl rfl hl.1 (Nat.le_of_ble_eq_true rfl) rfl dL_law_291 ?_
              refine lv_iadd hx hb dL_law_294 ?_
              refine lv_icmp_ne (tgt := 354) hx hb dL_law_295 (by decide) (fun hc => ?_) (fun hc => ?_)
              · have hok := iq hok hc
                refine lv_iconst (v := (0 : Int32)) hx hb dL_law_354 (by decide) ?_
                cases hok
              · have hok := ip hok hc
                refine lv_iload hx hb dL_law_298 (lv_at hl 11 rfl) ?_
                refine lv_iload hx hb dL_law_300 (lv_at hl 7 rfl) ?_
                refine lv_iload hx hb dL_law_302 (lv_at hl 8 rfl) ?_
                refine lv_isub hx hb dL_law_304 ?_
                refine lv_icmp_ne (tgt := 354) hx hb dL_law_305 (by decide) (fun hc => ?_) (fun hc => ?_)
                · have hok := iq hok hc
                  refine lv_iconst (v := (0 : Int32)) hx hb dL_law_354 (by decide) ?_
                  cases hok
                · have hok := ip hok hc
                  refine lv_aload_n hx hb dL_law_308 rfl (lv_at hl 1 rfl) ?_
                  obtain ⟨v19, hc19, hok⟩ := bd_some hok
                  refine cRVi (ci := 4) (q0 := 0) [] S hK2 (va_Pmid (wa := []) hP) (c_X4_liftAt l dC dI cI cZ n0 h0 h3 h4 h5 h6 c0 c8 c9 c10 c11 c12 c13 t0 t8 t9 t10 t11 t12 t13 i0 i1 i2 i3 i4 m0 m1 m2 uH uC uT uI uM hc19) (lw_V qm_L_134 qi_X4_liftAt qs_X4_liftAt qn_X4 qc_X4_liftAt) hd_X4_liftAt ⟨rfl, rfl⟩ ⟨Nat.le_of_ble_eq_true rfl, Nat.le_of_ble_eq_true rfl⟩ ⟨by show kc ≤ 600130; omega, by show sc ≤ 7301080; omega⟩ rfl rfl rfl hl.1 (Nat.le_of_ble_eq_true rfl) rfl dL_law_309 ?_
                  refine lv_if_lt (tgt := 354) hx hb dL_law_312 (by decide) (fun hc => ?_) (fun hc => ?_)
                  · have hok := ip hok hc
                    refine lv_iconst (v := (0 : Int32)) hx hb dL_law_354 (by decide) ?_
                    cases hok
                  · have hok := iq hok hc
                    refine lv_aload_n hx hb dL_law_315 rfl (lv_at hl 1 rfl) ?_
                    obtain ⟨v20, hc20, hok⟩ := bd_some hok
                    refine cRVi (ci := 4) (q0 := 0) [] S hK2 (va_Pmid (wa := []) hP) (c_X4_liftAt l dC dI cI cZ n0 h0 h3 h4 h5 h6 c0 c8 c9 c10 c11 c12 c13 t0 t8 t9 t10 t11 t12 t13 i0 i1 i2 i3 i4 m0 m1 m2 uH uC uT uI uM hc20) (lw_V qm_L_134 qi_X4_liftAt qs_X4_liftAt qn_X4 qc_X4_liftAt) hd_X4_liftAt ⟨rfl, rfl⟩ ⟨Nat.le_of_ble_eq_true rfl, Nat.le_of_ble_eq_true rfl⟩ ⟨by show kc ≤ 600130; omega, by show sc ≤ 7301080; omega⟩ rfl rfl rfl hl.1 (Nat.le_of_ble_eq_true rfl) rfl dL_law_316 ?_
                    refine lv_iload hx hb dL_law_319 (lv_at hl 4 rfl) ?_
                    refine lv_icmp_ge (tgt := 354) hx hb dL_law_321 (by decide) (fun hc => ?_) (fun hc => ?_)
                    · have hok := ip hok hc
                      refine lv_iconst (v := (0 : Int32)) hx hb dL_law_354 (by decide) ?_
                      cases hok
                    · have hok := iq hok hc
                      refine lv_aload_n hx hb dL_law_324 rfl (lv_at hl 1 rfl) ?_
                      obtain ⟨v21, hc21, hok⟩ := bd_some hok
                      refine cRVi (ci := 4) (q0 := 0) [] S hK2 (va_Pmid (wa := []) hP) (c_X4_goes l dC dI cI cZ n0 h0 h3 h4 h5 h6 c0 c8 c9 c10 c11 c12 c13 t0 t8 t9 t10 t11 t12 t13 i0 i1 i2 i3 i4 m0 m1 m2 uH uC uT uI uM hc21) (lw_V qm_L_137 qi_X4_goes qs_X4_goes qn_X4 qc_X4_goes) hd_X4_goes ⟨rfl, rfl⟩ ⟨Nat.le_of_ble_eq_true rfl, Nat.le_of_ble_eq_true rfl⟩ ⟨by show kc ≤ 600130; omega, by show sc ≤ 7301080; omega⟩ rfl rfl rfl hl.1 (Nat.le_of_ble_eq_true rfl) rfl dL_law_325 ?_
                      refine lv_iconst (v := (-1 : Int32)) hx hb dL_law_328 (by decide) ?_
                      refine lv_icmp_lt (tgt := 354) hx hb dL_law_329 (by decide) (fun hc => ?_) (fun hc => ?_)
                      · have hok := ip hok hc
                        refine lv_iconst (v := (0 : Int32)) hx hb dL_law_354 (by decide) ?_
                        cases hok
                      · have hok := iq hok hc
                        refine lv_aload_n hx hb dL_law_332 rfl (lv_at hl 1 rfl) ?_
                        obtain ⟨v22, hc22, hok⟩ := bd_some hok
                        refine cRVi (ci := 4) (q0 := 0) [] S hK2 (va_Pmid (wa := []) hP) (c_X4_goes l dC dI cI cZ n0 h0 h3 h4 h5 h6 c0 c8 c9 c10 c11 c12 c13 t0 t8 t9 t10 t11 t12 t13 i0 i1 i2 i3 i4 m0 m1 m2 uH uC uT uI uM hc22) (lw_V qm_L_137 qi_X4_goes qs_X4_goes qn_X4 qc_X4_goes) hd_X4_goes ⟨rfl, rfl⟩ ⟨Nat.le_of_ble_eq_true rfl, Nat.le_of_ble_eq_true rfl⟩ ⟨by show kc ≤ 600130; omega, by show sc ≤ 7301080; omega⟩ rfl rfl rfl hl.1 (Nat.le_of_ble_eq_true rfl) rfl dL_law_333 ?_
                        refine lv_iconst (v := (1 : Int32)) hx hb dL_law_336 (by decide) ?_
                        refine lv_icmp_gt (tgt := 354) hx hb dL_law_337 (by decide) (fun hc => ?_) (fun hc => ?_)
                        · have hok := ip hok hc
                          refine lv_iconst (v := (0 : Int32)) hx hb dL_law_354 (by decide) ?_
                          cases hok
                        · have hok := iq hok hc
                          refine lv_aload_n hx hb dL_law_340 rfl (lv_at hl 1 rfl) ?_
                          obtain ⟨v23, hc23, hok⟩ := bd_some hok
                          refine cRVi (ci := 4) (q0 := 0) [] S hK2 (va_Pmid (wa := []) hP) (c_X4_wear l dC dI cI cZ n0 h0 h3 h4 h5 h6 c0 c8 c9 c10 c11 c12 c13 t0 t8 t9 t10 t11 t12 t13 i0 i1 i2 i3 i4 m0 m1 m2 uH uC uT uI uM hc23) (lw_V qm_L_140 qi_X4_wear qs_X4_wear qn_X4 qc_X4_wear) hd_X4_wear ⟨rfl, rfl⟩ ⟨Nat.le_of_ble_eq_true rfl, Nat.le_of_ble_eq_true rfl⟩ ⟨by show kc ≤ 600130; omega, by show sc ≤ 7301080; omega⟩ rfl rfl rfl hl.1 (Nat.le_of_ble_eq_true rfl) rfl dL_law_341 ?_
                          refine lv_if_lt (tgt := 354) hx hb dL_law_344 (by decide) (fun hc => ?_) (fun hc => ?_)
                          · have hok := ip hok hc
                            refine lv_iconst (v := (0 : Int32)) hx hb dL_law_354 (by decide) ?_
                            cases hok
                          · have hok := iq hok hc
                            refine lv_aload_n hx hb dL_law_347 rfl (lv_at hl 1 rfl) ?_
                            obtain ⟨v24, hc24, hok⟩ := bd_some hok
                            refine cRVi (ci := 4) (q0 := 0) [] S hK2 (va_Pmid (wa := []) hP) (c_X4_suspense l dC dI cI cZ n0 h0 h3 h4 h5 h6 c0 c8 c9 c10 c11 c12 c13 t0 t8 t9 t10 t11 t12 t13 i0 i1 i2 i3 i4 m0 m1 m2 uH uC uT uI uM hc24) (lw_V qm_L_142 qi_X4_suspense qs_X4_suspense qn_X4 qc_X4_suspense) hd_X4_suspense ⟨rfl, rfl⟩ ⟨Nat.le_of_ble_eq_true rfl, Nat.le_of_ble_eq_true rfl⟩ ⟨by show kc ≤ 600130; omega, by show sc ≤ 7301080; omega⟩ rfl rfl rfl hl.1 (Nat.le_of_ble_eq_true rfl) rfl dL_law_348 ?_
                            refine lv_if_ge (tgt := 356) hx hb dL_law_351 (by decide) (fun hc => ?_) (fun hc => ?_)
                            · have hok := ip hok hc
                              refine lv_iconst (v := (0 : Int32)) hx hb dL_law_356 (by decide) ?_
                              refine lv_istore (lv' := [(13, .int (0 : Int32)), (0, .ref b), (1, .ref n0), (2, .ref g0), (3, .int l253_3), (5, .int l253_5), (6, .int l253_6), (7, .int l253_7), (8, .int l253_8), (9, .int l253_9), (10, .ref q253_0), (11, .ref q253_1), (12, .int l253_12)]) hx hb dL_law_357 hl (by decide) rfl (fun ls hl => ?_)
                              exact L359 200 g7 g8 g9 g10 g11 g12 G9 G10 G11 G12 uH uC uT uI uM uG q253_0 f253_0 n253_0 q253_1 f253_1 n253_1 l253_3 l253_5 l253_6 l253_7 (0 : Int32) kc sc (by omega) (by omega) _ _ hP hD hS _ (lv_sub hl [1, 2, 3, 4, 5, 6, 7, 10, 11, 0] rfl) hok
                            · have hok := iq hok hc
                              refine lv_iconst (v := (0 : Int32)) hx hb dL_law_354 (by decide) ?_
                              cases hok
          · have hok := iq hok hc
            refine lv_iload hx hb dL_law_260 (lv_at hl 11 rfl) ?_
            refine lv_aload_n hx hb dL_law_262 rfl (lv_at hl 1 rfl) ?_
            refine lv_iload hx hb dL_law_263 (lv_at hl 12 rfl) ?_
            obtain ⟨v25, hc25, hok⟩ := bd_some hok
            refine cRVi (ci := 4) (q0 := 0) [.int l253_13] S hK2 (va_Pmid (wa := []) hP) (c_X4_toCome l dC dI cI cZ n0 h0 h3 h4 h5 h6 c0 c8 c9 c10 c11 c12 c13 t0 t8 t9 t10 t11 t12 t13 i0 i1 i2 i3 i4 m0 m1 m2 uH uC uT uI uM l253_13 hc25) (lw_V qm_L_125 qi_X4_toCome qs_X4_toCome qn_X4 qc_X4_toCome) hd_X4_toCome ⟨rfl, rfl⟩ ⟨Nat.le_of_ble_eq_true rfl, Nat.le_of_ble_eq_true rfl⟩ ⟨by show kc ≤ 600130; omega, by show sc ≤ 7301080; omega⟩ rfl rfl rfl hl.1 (Nat.le_of_ble_eq_true rfl) rfl dL_law_265 ?_
            refine lv_iadd hx hb dL_law_268 ?_
            refine lv_istore (lv' := [(12, .int (l253_12 + v25)), (0, .ref b), (1, .ref n0), (2, .ref g0), (3, .int l253_3), (5, .int l253_5), (6, .int l253_6), (7, .int l253_7), (8, .int l253_8), (9, .int l253_9), (10, .ref q253_0), (11, .ref q253_1), (13, .int l253_13)]) hx hb dL_law_269 hl (by decide) rfl (fun ls hl => ?_)
            refine lv_iinc (v := (l253_13 + 1)) (lv' := [(13, .int (l253_13 + 1)), (12, .int (l253_12 + v25)), (0, .ref b), (1, .ref n0), (2, .ref g0), (3, .int l253_3), (5, .int l253_5), (6, .int l253_6), (7, .int l253_7), (8, .int l253_8), (9, .int l253_9), (10, .ref q253_0), (11, .ref q253_1)]) hx hb dL_law_271 hl (k := 12) rfl rfl (by decide) rfl (fun ls hl => ?_)
            refine lv_goto (tgt := 253) hx hb dL_law_274 (by decide) ?_
            exact ih253 g7 g8 g9 g10 g11 g12 G9 G10 G11 G12 uH uC uT uI uM uG q253_0 f253_0 n253_0 q253_1 f253_1 n253_1 l253_3 l253_5 l253_6 l253_7 l253_8 l253_9 (l253_12 + v25) (l253_13 + 1) kc sc (by omega) (by omega) _ _ hP hD hS _ (lv_sub hl [2, 3, 4, 5, 6, 7, 8, 9, 10, 11, 12, 1, 0] rfl) hok
      have L99 : ∀ n99 : Nat, ∀ (g7 : Nat) (g8 : Nat) (g9 : Nat) (g10 : Nat) (g11 : Nat) (g12 : Nat) (G9 : (Nat → Nat)) (G10 : (Nat → Nat)) (G11 : (Nat → Nat)) (G12 : (Nat → Nat)) (uH : tX1) (uC : tX0) (uT : tX0) (uI : tX2) (uM : tX3) (uG : tX5) (q99_0 : Nat) (f99_0 : (Nat → Int32)) (n99_0 : Nat) (q99_1 : Nat) (f99_1 : (Nat → Int32)) (n99_1 : Nat) (l99_3 : Int32) (l99_5 : Int32) (l99_6 : Int32) (l99_7 : Int32) (l99_8 : Int32) (l99_9 : Int32) (l99_12 : Int32) (kc sc : Nat) (hkc : kc + 4 + 128 * n22 + 1 ≤ 600130) (hsc : sc + 159 + 8418 * n22 + 8 ≤ 7301080) (H : Heap) (locs : List Loc) (hP : va_P (dC, dI) vwCl ((wN cI cZ n0 h0 h3 h4 h5 h6 c0 c8 c9 c10 c11 c12 c13 t0 t8 t9 t10 t11 t12 t13 i0 i1 i2 i3 i4 m0 m1 m2 uH uC uT uI uM) ++ (wX5 cI cZ cJ g0 g7 g8 g9 g10 g11 g12 G9 G10 G11 G12 uG ++ [(q99_0, .inl (cI, n99_0, .inl f99_0)), (q99_1, .inl (cZ, n99_1, .inl f99_1))])) H) (hD : va_D A ((wN cI cZ n0 h0 h3 h4 h5 h6 c0 c8 c9 c10 c11 c12 c13 t0 t8 t9 t10 t11 t12 t13 i0 i1 i2 i3 i4 m0 m1 m2 uH uC uT uI uM) ++ (wX5 cI cZ cJ g0 g7 g8 g9 g10 g11 g12 G9 G10 G11 G12 uG ++ [(q99_0, .inl (cI, n99_0, .inl f99_0)), (q99_1, .inl (cZ, n99_1, .inl f99_1))]))) (hS : va_S A s.heap H locs) (ls : Array Slot) (hl : lv_has ls 27 [(0, .ref b), (1, .ref n0), (2, .ref g0), (3, .int l99_3), (5, .int l99_5), (6, .int l99_6), (7, .int l99_7), (8, .int l99_8), (9, .int l99_9), (10, .ref q99_0), (11, .ref q99_1), (12, .int l99_12)]) (hok : p_L_law_L99 xv Lc (p_L_law_L22 xv Lc n22) n99 uH uC uT uI uM uG f99_0 n99_0 f99_1 n99_1 l99_3 l99_5 l99_6 l99_7 l99_8 l99_9 l99_12 = some z), W p l e room_1 s m #[Value.ref b] below meth c H locs kc sc (lw_Z below #[Value.ref b] s) (F0 m 99 ls []) := by
        intro n99
        induction n99 with
        | zero =>
          intro g7 g8 g9 g10 g11 g12 G9 G10 G11 G12 uH uC uT uI uM uG q99_0 f99_0 n99_0 q99_1 f99_1 n99_1 l99_3 l99_5 l99_6 l99_7 l99_8 l99_9 l99_12 kc sc hkc hsc H locs hP hD hS ls hl hok
          rw [p_L_law_L99] at hok
          cases hok
        | succ n99 ih99 =>
          have J236 : ∀ (g7 : Nat) (g8 : Nat) (g9 : Nat) (g10 : Nat) (g11 : Nat) (g12 : Nat) (G9 : (Nat → Nat)) (G10 : (Nat → Nat)) (G11 : (Nat → Nat)) (G12 : (Nat → Nat)) (uH : tX1) (uC : tX0) (uT : tX0) (uI : tX2) (uM : tX3) (uG : tX5) (q236_0 : Nat) (f236_0 : (Nat → Int32)) (n236_0 : Nat) (q236_1 : Nat) (f236_1 : (Nat → Int32)) (n236_1 : Nat) (l236_3 : Int32) (l236_5 : Int32) (l236_6 : Int32) (l236_7 : Int32) (l236_8 : Int32) (l236_9 : Int32) (l236_12 : Int32) (s236_0 : Int32) (s236_1 : Int32) (kc sc : Nat) (hkc : kc + 4 + 128 * n22 + 1 ≤ 600130) (hsc : sc + 159 + 8418 * n22 + 8 ≤ 7301080) (H : Heap) (locs : List Loc) (hP : va_P (dC, dI) vwCl ((wN cI cZ n0 h0 h3 h4 h5 h6 c0 c8 c9 c10 c11 c12 c13 t0 t8 t9 t10 t11 t12 t13 i0 i1 i2 i3 i4 m0 m1 m2 uH uC uT uI uM) ++ (wX5 cI cZ cJ g0 g7 g8 g9 g10 g11 g12 G9 G10 G11 G12 uG ++ [(q236_0, .inl (cI, n236_0, .inl f236_0)), (q236_1, .inl (cZ, n236_1, .inl f236_1))])) H) (hD : va_D A ((wN cI cZ n0 h0 h3 h4 h5 h6 c0 c8 c9 c10 c11 c12 c13 t0 t8 t9 t10 t11 t12 t13 i0 i1 i2 i3 i4 m0 m1 m2 uH uC uT uI uM) ++ (wX5 cI cZ cJ g0 g7 g8 g9 g10 g11 g12 G9 G10 G11 G12 uG ++ [(q236_0, .inl (cI, n236_0, .inl f236_0)), (q236_1, .inl (cZ, n236_1, .inl f236_1))]))) (hS : va_S A s.heap H locs) (ls : Array Slot) (hl : lv_has ls 27 [(0, .ref b), (1, .ref n0), (2, .ref g0), (3, .int l236_3), (5, .int l236_5), (6, .int l236_6), (7, .int l236_7), (8, .int l236_8), (9, .int l236_9), (10, .ref q236_0), (11, .ref q236_1), (12, .int l236_12)]) (hok : p_L_law_J236 xv Lc (p_L_law_L22 xv Lc n22) (p_L_law_L99 xv Lc (p_L_law_L22 xv Lc n22) n99) uH uC uT uI uM uG f236_0 n236_0 f236_1 n236_1 l236_3 l236_5 l236_6 l236_7 l236_8 l236_9 l236_12 s236_0 s236_1 = some z), W p l e room_1 s m #[Value.ref b] below meth c H locs kc sc (lw_Z below #[Value.ref b] s) (F0 m 236 ls [.int s236_0, .int s236_1]) := by
            intro g7 g8 g9 g10 g11 g12 G9 G10 G11 G12 uH uC uT uI uM uG q236_0 f236_0 n236_0 q236_1 f236_1 n236_1 l236_3 l236_5 l236_6 l236_7 l236_8 l236_9 l236_12 s236_0 s236_1 kc sc hkc hsc H locs hP hD hS ls hl hok
            unfold p_L_law_J236 at hok
            refine lv_icmp_le (tgt := 241) hx hb dL_law_236 (by decide) (fun hc => ?_) (fun hc => ?_)
            · have hok := ip hok hc
              refine lv_iinc (v := (l236_12 + 1)) (lv' := [(12, .int (l236_12 + 1)), (0, .ref b), (1, .ref n0), (2, .ref g0), (3, .int l236_3), (5, .int l236_5), (6, .int l236_6), (7, .int l236_7), (8, .int l236_8), (9, .int l236_9), (10, .ref q236_0), (11, .ref q236_1)]) hx hb dL_law_241 hl (k := 11) rfl rfl (by decide) rfl (fun ls hl => ?_)
              refine lv_goto (tgt := 99) hx hb dL_law_244 (by decide) ?_
              exact ih99 g7 g8 g9 g10 g11 g12 G9 G10 G11 G12 uH uC uT uI uM uG q236_0 f236_0 n236_0 q236_1 f236_1 n236_1 l236_3 l236_5 l236_6 l236_7 l236_8 l236_9 (l236_12 + 1) kc sc (by omega) (by omega) _ _ hP hD hS _ (lv_sub hl [1, 2, 3, 4, 5, 6, 7, 8, 9, 10, 11, 0] rfl) hok
            · have hok := iq hok hc
              refine lv_iconst (v := (0 : Int32)) hx hb dL_law_239 (by decide) ?_
              cases hok
          have J181 : ∀ (g7 : Nat) (g8 : Nat) (g9 : Nat) (g10 : Nat) (g11 : Nat) (g12 : Nat) (G9 : (Nat → Nat)) (G10 : (Nat → Nat)) (G11 : (Nat → Nat)) (G12 : (Nat → Nat)) (uH : tX1) (uC : tX0) (uT : tX0) (uI : tX2) (uM : tX3) (uG : tX5) (q181_0 : Nat) (f181_0 : (Nat → Int32)) (n181_0 : Nat) (q181_1 : Nat) (f181_1 : (Nat → Int32)) (n181_1 : Nat) (l181_3 : Int32) (l181_5 : Int32) (l181_6 : Int32) (l181_7 : Int32) (l181_8 : Int32) (l181_12 : Int32) (l181_13 : Int32) (s181_0 : Int32) (s181_1 : Int32) (kc sc : Nat) (hkc : kc + 4 + 128 * n22 + 1 ≤ 600130) (hsc : sc + 159 + 8418 * n22 + 8 ≤ 7301080) (H : Heap) (locs : List Loc) (hP : va_P (dC, dI) vwCl ((wN cI cZ n0 h0 h3 h4 h5 h6 c0 c8 c9 c10 c11 c12 c13 t0 t8 t9 t10 t11 t12 t13 i0 i1 i2 i3 i4 m0 m1 m2 uH uC uT uI uM) ++ (wX5 cI cZ cJ g0 g7 g8 g9 g10 g11 g12 G9 G10 G11 G12 uG ++ [(q181_0, .inl (cI, n181_0, .inl f181_0)), (q181_1, .inl (cZ, n181_1, .inl f181_1))])) H) (hD : va_D A ((wN cI cZ n0 h0 h3 h4 h5 h6 c0 c8 c9 c10 c11 c12 c13 t0 t8 t9 t10 t11 t12 t13 i0 i1 i2 i3 i4 m0 m1 m2 uH uC uT uI uM) ++ (wX5 cI cZ cJ g0 g7 g8 g9 g10 g11 g12 G9 G10 G11 G12 uG ++ [(q181_0, .inl (cI, n181_0, .inl f181_0)), (q181_1, .inl (cZ, n181_1, .inl f181_1))]))) (hS : va_S A s.heap H locs) (ls : Array Slot) (hl : lv_has ls 27 [(0, .ref b), (1, .ref n0), (2, .ref g0), (3, .int l181_3), (5, .int l181_5), (6, .int l181_6), (7, .int l181_7), (8, .int l181_8), (10, .ref q181_0), (11, .ref q181_1), (12, .int l181_12), (13, .int l181_13)]) (hok : p_L_law_J181 xv Lc (p_L_law_L22 xv Lc n22) (p_L_law_L99 xv Lc (p_L_law_L22 xv Lc n22) n99) uH uC uT uI uM uG f181_0 n181_0 f181_1 n181_1 l181_3 l181_5 l181_6 l181_7 l181_8 l181_12 l181_13 s181_0 s181_1 = some z), W p l e room_1 s m #[Value.ref b] below meth c H locs kc sc (lw_Z below #[Value.ref b] s) (F0 m 181 ls [.int s181_0, .int s181_1]) := by
            intro g7 g8 g9 g10 g11 g12 G9 G10 G11 G12 uH uC uT uI uM uG q181_0 f181_0 n181_0 q181_1 f181_1 n181_1 l181_3 l181_5 l181_6 l181_7 l181_8 l181_12 l181_13 s181_0 s181_1 kc sc hkc hsc H locs hP hD hS ls hl hok
            unfold p_L_law_J181 at hok
            refine lv_iadd hx hb dL_law_181 ?_
            refine lv_istore (lv' := [(9, .int (s181_1 + s181_0)), (0, .ref b), (1, .ref n0), (2, .ref g0), (3, .int l181_3), (5, .int l181_5), (6, .int l181_6), (7, .int l181_7), (8, .int l181_8), (10, .ref q181_0), (11, .ref q181_1), (12, .int l181_12), (13, .int l181_13)]) hx hb dL_law_182 hl (by decide) rfl (fun ls hl => ?_)
            refine lv_aload hx hb dL_law_184 (lv_at hl 9 rfl) ?_
            refine lv_iload hx hb dL_law_186 (lv_at hl 11 rfl) ?_
            obtain ⟨hi35, hok⟩ := gd_some hok
            refine xl hx hb hK hP 0 0 rfl rfl (j := l181_12.toNatClampNeg) rfl hi35 dL_law_188 ?_
            refine lv_iconst (v := (-1 : Int32)) hx hb dL_law_189 (by decide) ?_
            refine lv_icmp_lt (tgt := 239) hx hb dL_law_190 (by decide) (fun hc => ?_) (fun hc => ?_)
            · have hok := ip hok hc
              refine lv_iconst (v := (0 : Int32)) hx hb dL_law_239 (by decide) ?_
              cases hok
            · have hok := iq hok hc
              refine lv_aload hx hb dL_law_193 (lv_at hl 9 rfl) ?_
              refine lv_iload hx hb dL_law_195 (lv_at hl 11 rfl) ?_
              refine xl hx hb hK hP 0 0 rfl rfl (j := l181_12.toNatClampNeg) rfl hi35 dL_law_197 ?_
              refine lv_iload hx hb dL_law_198 (lv_at hl 12 rfl) ?_
              refine lv_icmp_ge (tgt := 239) hx hb dL_law_200 (by decide) (fun hc => ?_) (fun hc => ?_)
              · have hok := ip hok hc
                refine lv_iconst (v := (0 : Int32)) hx hb dL_law_239 (by decide) ?_
                cases hok
              · have hok := iq hok hc
                refine lv_aload_n hx hb dL_law_203 rfl (lv_at hl 2 rfl) ?_
                refine lv_iload hx hb dL_law_204 (lv_at hl 11 rfl) ?_
                obtain ⟨v36, hc36, hok⟩ := bd_some hok
                refine cRVi (ci := 4) (q0 := 0) [.int l181_12] S hK2 (va_Pmid (wa := []) hP) (c_X4_cutOn l dC dI cI cZ n0 h0 h3 h4 h5 h6 c0 c8 c9 c10 c11 c12 c13 t0 t8 t9 t10 t11 t12 t13 i0 i1 i2 i3 i4 m0 m1 m2 uH uC uT uI uM l181_12 hc36) (lw_V qm_L_122 qi_X4_cutOn qs_X4_cutOn qn_X4 qc_X4_cutOn) hd_X4_cutOn ⟨rfl, rfl⟩ ⟨Nat.le_of_ble_eq_true rfl, Nat.le_of_ble_eq_true rfl⟩ ⟨by show kc ≤ 600130; omega, by show sc ≤ 7301080; omega⟩ rfl rfl rfl hl.1 (Nat.le_of_ble_eq_true rfl) rfl dL_law_206 ?_
                refine lv_if_lt (tgt := 239) hx hb dL_law_209 (by decide) (fun hc => ?_) (fun hc => ?_)
                · have hok := ip hok hc
                  refine lv_iconst (v := (0 : Int32)) hx hb dL_law_239 (by decide) ?_
                  cases hok
                · have hok := iq hok hc
                  refine lv_aload_n hx hb dL_law_212 rfl (lv_at hl 2 rfl) ?_
                  refine lv_iload hx hb dL_law_213 (lv_at hl 11 rfl) ?_
                  obtain ⟨v37, hc37, hok⟩ := bd_some hok
                  refine cRVi (ci := 4) (q0 := 0) [.int l181_12] S hK2 (va_Pmid (wa := []) hP) (c_X4_cutOn l dC dI cI cZ n0 h0 h3 h4 h5 h6 c0 c8 c9 c10 c11 c12 c13 t0 t8 t9 t10 t11 t12 t13 i0 i1 i2 i3 i4 m0 m1 m2 uH uC uT uI uM l181_12 hc37) (lw_V qm_L_122 qi_X4_cutOn qs_X4_cutOn qn_X4 qc_X4_cutOn) hd_X4_cutOn ⟨rfl, rfl⟩ ⟨Nat.le_of_ble_eq_true rfl, Nat.le_of_ble_eq_true rfl⟩ ⟨by show kc ≤ 600130; omega, by show sc ≤ 7301080; omega⟩ rfl rfl rfl hl.1 (Nat.le_of_ble_eq_true rfl) rfl dL_law_215 ?_
                  refine lv_aload hx hb dL_law_218 (lv_at hl 9 rfl) ?_
                  refine lv_iload hx hb dL_law_220 (lv_at hl 11 rfl) ?_
                  refine xl hx hb hK hP 0 0 rfl rfl (j := l181_12.toNatClampNeg) rfl hi35 dL_law_222 ?_
                  refine lv_if_ge (tgt := 231) hx hb dL_law_223 (by decide) (fun hc => ?_) (fun hc => ?_)
                  · have hok := ip hok hc
                    refine lv_aload hx hb dL_law_231 (lv_at hl 9 rfl) ?_
                    refine lv_iload hx hb dL_law_233 (lv_at hl 11 rfl) ?_
                    refine xl hx hb hK hP 0 0 rfl rfl (j := l181_12.toNatClampNeg) rfl hi35 dL_law_235 ?_
                    exact J236 g7 g8 g9 g10 g11 g12 G9 G10 G11 G12 uH uC uT uI uM uG q181_0 f181_0 n181_0 q181_1 f181_1 n181_1 l181_3 l181_5 l181_6 l181_7 l181_8 (s181_1 + s181_0) l181_12 (f181_0 l181_12.toNatClampNeg) v37 kc sc (by omega) (by omega) _ _ hP hD hS _ (lv_sub hl [1, 2, 3, 4, 5, 6, 7, 8, 0, 9, 10, 11] rfl) hok
                  · have hok := iq hok hc
                    refine lv_iload hx hb dL_law_226 (lv_at hl 12 rfl) ?_
                    refine lv_goto (tgt := 236) hx hb dL_law_228 (by decide) ?_
                    exact J236 g7 g8 g9 g10 g11 g12 G9 G10 G11 G12 uH uC uT uI uM uG q181_0 f181_0 n181_0 q181_1 f181_1 n181_1 l181_3 l181_5 l181_6 l181_7 l181_8 (s181_1 + s181_0) l181_12 l181_13 v37 kc sc (by omega) (by omega) _ _ hP hD hS _ (lv_sub hl [1, 2, 3, 4, 5, 6, 7, 8, 0, 9, 10, 11] rfl) hok
          have J151 : ∀ (g7 : Nat) (g8 : Nat) (g9 : Nat) (g10 : Nat) (g11 : Nat) (g12 : Nat) (G9 : (Nat → Nat)) (G10 : (Nat → Nat)) (G11 : (Nat → Nat)) (G12 : (Nat → Nat)) (uH : tX1) (uC : tX0) (uT : tX0) (uI : tX2) (uM : tX3) (uG : tX5) (q151_0 : Nat) (f151_0 : (Nat → Int32)) (n151_0 : Nat) (q151_1 : Nat) (f151_1 : (Nat → Int32)) (n151_1 : Nat) (l151_3 : Int32) (l151_5 : Int32) (l151_6 : Int32) (l151_8 : Int32) (l151_9 : Int32) (l151_12 : Int32) (l151_13 : Int32) (s151_0 : Int32) (s151_1 : Int32) (kc sc : Nat) (hkc : kc + 4 + 128 * n22 + 1 ≤ 600130) (hsc : sc + 159 + 8418 * n22 + 8 ≤ 7301080) (H : Heap) (locs : List Loc) (hP : va_P (dC, dI) vwCl ((wN cI cZ n0 h0 h3 h4 h5 h6 c0 c8 c9 c10 c11 c12 c13 t0 t8 t9 t10 t11 t12 t13 i0 i1 i2 i3 i4 m0 m1 m2 uH uC uT uI uM) ++ (wX5 cI cZ cJ g0 g7 g8 g9 g10 g11 g12 G9 G10 G11 G12 uG ++ [(q151_0, .inl (cI, n151_0, .inl f151_0)), (q151_1, .inl (cZ, n151_1, .inl f151_1))])) H) (hD : va_D A ((wN cI cZ n0 h0 h3 h4 h5 h6 c0 c8 c9 c10 c11 c12 c13 t0 t8 t9 t10 t11 t12 t13 i0 i1 i2 i3 i4 m0 m1 m2 uH uC uT uI uM) ++ (wX5 cI cZ cJ g0 g7 g8 g9 g10 g11 g12 G9 G10 G11 G12 uG ++ [(q151_0, .inl (cI, n151_0, .inl f151_0)), (q151_1, .inl (cZ, n151_1, .inl f151_1))]))) (hS : va_S A s.heap H locs) (ls : Array Slot) (hl : lv_has ls 27 [(0, .ref b), (1, .ref n0), (2, .ref g0), (3, .int l151_3), (5, .int l151_5), (6, .int l151_6), (8, .int l151_8), (9, .int l151_9), (10, .ref q151_0), (11, .ref q151_1), (12, .int l151_12), (13, .int l151_13)]) (hok : p_L_law_J151 xv Lc (p_L_law_L22 xv Lc n22) (p_L_law_L99 xv Lc (p_L_law_L22 xv Lc n22) n99) uH uC uT uI uM uG f151_0 n151_0 f151_1 n151_1 l151_3 l151_5 l151_6 l151_8 l151_9 l151_12 l151_13 s151_0 s151_1 = some z), W p l e room_1 s m #[Value.ref b] below meth c H locs kc sc (lw_Z below #[Value.ref b] s) (F0 m 151 ls [.int s151_0, .int s151_1]) := by
            intro g7 g8 g9 g10 g11 g12 G9 G10 G11 G12 uH uC uT uI uM uG q151_0 f151_0 n151_0 q151_1 f151_1 n151_1 l151_3 l151_5 l151_6 l151_8 l151_9 l151_12 l151_13 s151_0 s151_1 kc sc hkc hsc H locs hP hD hS ls hl hok
            unfold p_L_law_J151 at hok
            refine lv_iadd hx hb dL_law_151 ?_
            refine lv_istore (lv' := [(7, .int (s151_1 + s151_0)), (0, .ref b), (1, .ref n0), (2, .ref g0), (3, .int l151_3), (5, .int l151_5), (6, .int l151_6), (8, .int l151_8), (9, .int l151_9), (10, .ref q151_0), (11, .ref q151_1), (12, .int l151_12), (13, .int l151_13)]) hx hb dL_law_152 hl (by decide) rfl (fun ls hl => ?_)
            refine lv_iload hx hb dL_law_154 (lv_at hl 7 rfl) ?_
            refine lv_iload hx hb dL_law_156 (lv_at hl 12 rfl) ?_
            refine lv_iadd hx hb dL_law_158 ?_
            refine lv_istore (lv' := [(8, .int (l151_8 + l151_13)), (7, .int (s151_1 + s151_0)), (0, .ref b), (1, .ref n0), (2, .ref g0), (3, .int l151_3), (5, .int l151_5), (6, .int l151_6), (9, .int l151_9), (10, .ref q151_0), (11, .ref q151_1), (12, .int l151_12), (13, .int l151_13)]) hx hb dL_law_159 hl (by decide) rfl (fun ls hl => ?_)
            refine lv_iload hx hb dL_law_161 (lv_at hl 8 rfl) ?_
            refine lv_aload hx hb dL_law_163 (lv_at hl 9 rfl) ?_
            refine lv_iload hx hb dL_law_165 (lv_at hl 11 rfl) ?_
            obtain ⟨hi26, hok⟩ := gd_some hok
            refine xl hx hb hK hP 0 0 rfl rfl (j := l151_12.toNatClampNeg) rfl hi26 dL_law_167 ?_
            refine lv_if_ge (tgt := 176) hx hb dL_law_168 (by decide) (fun hc => ?_) (fun hc => ?_)
            · have hok := ip hok hc
              refine lv_aload hx hb dL_law_176 (lv_at hl 9 rfl) ?_
              refine lv_iload hx hb dL_law_178 (lv_at hl 11 rfl) ?_
              refine xl hx hb hK hP 0 0 rfl rfl (j := l151_12.toNatClampNeg) rfl hi26 dL_law_180 ?_
              exact J181 g7 g8 g9 g10 g11 g12 G9 G10 G11 G12 uH uC uT uI uM uG q151_0 f151_0 n151_0 q151_1 f151_1 n151_1 l151_3 l151_5 l151_6 (s151_1 + s151_0) (l151_8 + l151_13) l151_12 l151_13 (f151_0 l151_12.toNatClampNeg) l151_9 kc sc (by omega) (by omega) _ _ hP hD hS _ (lv_sub hl [2, 3, 4, 5, 6, 7, 1, 0, 9, 10, 11, 12] rfl) hok
            · have hok := iq hok hc
              refine lv_iload hx hb dL_law_171 (lv_at hl 12 rfl) ?_
              refine lv_goto (tgt := 181) hx hb dL_law_173 (by decide) ?_
              exact J181 g7 g8 g9 g10 g11 g12 G9 G10 G11 G12 uH uC uT uI uM uG q151_0 f151_0 n151_0 q151_1 f151_1 n151_1 l151_3 l151_5 l151_6 (s151_1 + s151_0) (l151_8 + l151_13) l151_12 l151_13 l151_13 l151_9 kc sc (by omega) (by omega) _ _ hP hD hS _ (lv_sub hl [2, 3, 4, 5, 6, 7, 1, 0, 9, 10, 11, 12] rfl) hok
          intro g7 g8 g9 g10 g11 g12 G9 G10 G11 G12 uH uC uT uI uM uG q99_0 f99_0 n99_0 q99_1 f99_1 n99_1 l99_3 l99_5 l99_6 l99_7 l99_8 l99_9 l99_12 kc sc hkc hsc H locs hP hD hS ls hl hok
          rw [p_L_law_L99] at hok
          refine lv_iload hx hb dL_law_99 (lv_at hl 11 rfl) ?_
          refine lv_iload hx hb dL_law_101 (lv_at hl 4 rfl) ?_
          refine lv_icmp_ge (tgt := 247) hx hb dL_law_103 (by decide) (fun hc => ?_) (fun hc => ?_)
          · have hok := ip hok hc
            refine lv_iconst (v := (0 : Int32)) hx hb dL_law_247 (by decide) ?_
            refine lv_istore (lv' := [(12, .int (0 : Int32)), (0, .ref b), (1, .ref n0), (2, .ref g0), (3, .int l99_3), (5, .int l99_5), (6, .int l99_6), (7, .int l99_7), (8, .int l99_8), (9, .int l99_9), (10, .ref q99_0), (11, .ref q99_1)]) hx hb dL_law_248 hl (by decide) rfl (fun ls hl => ?_)
            refine lv_iconst (v := (0 : Int32)) hx hb dL_law_250 (by decide) ?_
            refine lv_istore (lv' := [(13, .int (0 : Int32)), (12, .int (0 : Int32)), (0, .ref b), (1, .ref n0), (2, .ref g0), (3, .int l99_3), (5, .int l99_5), (6, .int l99_6), (7, .int l99_7), (8, .int l99_8), (9, .int l99_9), (10, .ref q99_0), (11, .ref q99_1)]) hx hb dL_law_251 hl (by decide) rfl (fun ls hl => ?_)
            exact L253 200 g7 g8 g9 g10 g11 g12 G9 G10 G11 G12 uH uC uT uI uM uG q99_0 f99_0 n99_0 q99_1 f99_1 n99_1 l99_3 l99_5 l99_6 l99_7 l99_8 l99_9 (0 : Int32) (0 : Int32) kc sc (by omega) (by omega) _ _ hP hD hS _ (lv_sub hl [2, 3, 4, 5, 6, 7, 8, 9, 10, 11, 12, 1, 0] rfl) hok
          · have hok := iq hok hc
            refine lv_aload_n hx hb dL_law_106 rfl (lv_at hl 1 rfl) ?_
            refine lv_iload hx hb dL_law_107 (lv_at hl 11 rfl) ?_
            obtain ⟨v12, hc12, hok⟩ := bd_some hok
            refine cRVi (ci := 4) (q0 := 0) [.int l99_12] S hK2 (va_Pmid (wa := []) hP) (c_X4_paragraphs l dC dI cI cZ n0 h0 h3 h4 h5 h6 c0 c8 c9 c10 c11 c12 c13 t0 t8 t9 t10 t11 t12 t13 i0 i1 i2 i3 i4 m0 m1 m2 uH uC uT uI uM l99_12 hc12) (lw_V qm_L_113 qi_X4_paragraphs qs_X4_paragraphs qn_X4 qc_X4_paragraphs) hd_X4_paragraphs ⟨rfl, rfl⟩ ⟨Nat.le_of_ble_eq_true rfl, Nat.le_of_ble_eq_true rfl⟩ ⟨by show kc ≤ 600130; omega, by show sc ≤ 7301080; omega⟩ rfl rfl rfl hl.1 (Nat.le_of_ble_eq_true rfl) rfl dL_law_109 ?_
            refine lv_istore (lv' := [(13, .int v12), (0, .ref b), (1, .ref n0), (2, .ref g0), (3, .int l99_3), (5, .int l99_5), (6, .int l99_6), (7, .int l99_7), (8, .int l99_8), (9, .int l99_9), (10, .ref q99_0), (11, .ref q99_1), (12, .int l99_12)]) hx hb dL_law_112 hl (by decide) rfl (fun ls hl => ?_)
            refine lv_aload hx hb dL_law_114 (lv_at hl 10 rfl) ?_
            refine lv_iload hx hb dL_law_116 (lv_at hl 12 rfl) ?_
            refine lv_aload_n hx hb dL_law_118 rfl (lv_at hl 2 rfl) ?_
            refine lv_iload hx hb dL_law_119 (lv_at hl 12 rfl) ?_
            obtain ⟨v13, hc13, hok⟩ := bd_some hok
            refine cRVi (ci := 4) (q0 := 0) [.int l99_12] S hK2 (va_Pmid (wa := []) hP) (c_X4_nextParagraph l dC dI cI cZ n0 h0 h3 h4 h5 h6 c0 c8 c9 c10 c11 c12 c13 t0 t8 t9 t10 t11 t12 t13 i0 i1 i2 i3 i4 m0 m1 m2 uH uC uT uI uM l99_12 hc13) (lw_V qm_L_116 qi_X4_nextParagraph qs_X4_nextParagraph qn_X4 qc_X4_nextParagraph) hd_X4_nextParagraph ⟨rfl, rfl⟩ ⟨Nat.le_of_ble_eq_true rfl, Nat.le_of_ble_eq_true rfl⟩ ⟨by show kc ≤ 600130; omega, by show sc ≤ 7301080; omega⟩ rfl rfl rfl hl.1 (Nat.le_of_ble_eq_true rfl) rfl dL_law_121 ?_
            obtain ⟨hi14, hok⟩ := gd_some hok
            refine xs hx hb hK hP hD hS 0 0 rfl rfl (j := l99_12.toNatClampNeg) rfl hi14 dL_law_124 (fun H locs hP hD hS => ?_)
            have hP : va_P (dC, dI) vwCl ((wN cI cZ n0 h0 h3 h4 h5 h6 c0 c8 c9 c10 c11 c12 c13 t0 t8 t9 t10 t11 t12 t13 i0 i1 i2 i3 i4 m0 m1 m2 uH uC uT uI uM) ++ (wX5 cI cZ cJ g0 g7 g8 g9 g10 g11 g12 G9 G10 G11 G12 uG ++ [(q99_0, .inl (cI, n99_0, .inl (upd f99_0 l99_12.toNatClampNeg v13))), (q99_1, .inl (cZ, n99_1, .inl f99_1))])) H := hP
            have hD : va_D A ((wN cI cZ n0 h0 h3 h4 h5 h6 c0 c8 c9 c10 c11 c12 c13 t0 t8 t9 t10 t11 t12 t13 i0 i1 i2 i3 i4 m0 m1 m2 uH uC uT uI uM) ++ (wX5 cI cZ cJ g0 g7 g8 g9 g10 g11 g12 G9 G10 G11 G12 uG ++ [(q99_0, .inl (cI, n99_0, .inl (upd f99_0 l99_12.toNatClampNeg v13))), (q99_1, .inl (cZ, n99_1, .inl f99_1))])) := hD
            refine lv_aload hx hb dL_law_125 (lv_at hl 11 rfl) ?_
            refine lv_iload hx hb dL_law_127 (lv_at hl 12 rfl) ?_
            refine lv_aload_n hx hb dL_law_129 rfl (lv_at hl 2 rfl) ?_
            refine lv_iload hx hb dL_law_130 (lv_at hl 12 rfl) ?_
            obtain ⟨v15, hc15, hok⟩ := bd_some hok
            refine cRVi (ci := 4) (q0 := 0) [.int l99_12] S hK2 (va_Pmid (wa := []) hP) (c_X4_isCalled l dC dI cI cZ n0 h0 h3 h4 h5 h6 c0 c8 c9 c10 c11 c12 c13 t0 t8 t9 t10 t11 t12 t13 i0 i1 i2 i3 i4 m0 m1 m2 uH uC uT uI uM l99_12 hc15) (lw_V qm_L_119 qi_X4_isCalled qs_X4_isCalled qn_X4 qc_X4_isCalled) hd_X4_isCalled ⟨rfl, rfl⟩ ⟨Nat.le_of_ble_eq_true rfl, Nat.le_of_ble_eq_true rfl⟩ ⟨by show kc ≤ 600130; omega, by show sc ≤ 7301080; omega⟩ rfl rfl rfl hl.1 (Nat.le_of_ble_eq_true rfl) rfl dL_law_132 ?_
            obtain ⟨hi16, hok⟩ := gd_some hok
            refine xsz hx hb hK hP hD hS 1 1 rfl rfl (j := l99_12.toNatClampNeg) rfl hi16 dL_law_135 (fun H locs hP hD hS => ?_)
            have hP : va_P (dC, dI) vwCl ((wN cI cZ n0 h0 h3 h4 h5 h6 c0 c8 c9 c10 c11 c12 c13 t0 t8 t9 t10 t11 t12 t13 i0 i1 i2 i3 i4 m0 m1 m2 uH uC uT uI uM) ++ (wX5 cI cZ cJ g0 g7 g8 g9 g10 g11 g12 G9 G10 G11 G12 uG ++ [(q99_0, .inl (cI, n99_0, .inl (upd f99_0 l99_12.toNatClampNeg v13))), (q99_1, .inl (cZ, n99_1, .inl (upd f99_1 l99_12.toNatClampNeg (vp_nar .boolean v15))))])) H := hP
            have hD : va_D A ((wN cI cZ n0 h0 h3 h4 h5 h6 c0 c8 c9 c10 c11 c12 c13 t0 t8 t9 t10 t11 t12 t13 i0 i1 i2 i3 i4 m0 m1 m2 uH uC uT uI uM) ++ (wX5 cI cZ cJ g0 g7 g8 g9 g10 g11 g12 G9 G10 G11 G12 uG ++ [(q99_0, .inl (cI, n99_0, .inl (upd f99_0 l99_12.toNatClampNeg v13))), (q99_1, .inl (cZ, n99_1, .inl (upd f99_1 l99_12.toNatClampNeg (vp_nar .boolean v15))))])) := hD
            refine lv_iload hx hb dL_law_136 (lv_at hl 7 rfl) ?_
            refine lv_aload hx hb dL_law_138 (lv_at hl 11 rfl) ?_
            refine lv_iload hx hb dL_law_140 (lv_at hl 12 rfl) ?_
            refine xlz hx hb hK hP 1 1 rfl rfl (j := l99_12.toNatClampNeg) rfl hi16 dL_law_142 ?_
            refine lv_if_eq (tgt := 150) hx hb dL_law_143 (by decide) (fun hc => ?_) (fun hc => ?_)
            · have hok := ip hok hc
              refine lv_iconst (v := (0 : Int32)) hx hb dL_law_150 (by decide) ?_
              exact J151 g7 g8 g9 g10 g11 g12 G9 G10 G11 G12 uH uC uT uI uM uG q99_0 (upd f99_0 l99_12.toNatClampNeg v13) n99_0 q99_1 (upd f99_1 l99_12.toNatClampNeg (vp_nar .boolean v15)) n99_1 l99_3 l99_5 l99_6 l99_8 l99_9 l99_12 v12 (0 : Int32) l99_7 kc sc (by omega) (by omega) _ _ hP hD hS _ (lv_sub hl [1, 2, 3, 4, 5, 6, 8, 9, 10, 11, 12, 0] rfl) hok
            · have hok := iq hok hc
              refine lv_iconst (v := (1 : Int32)) hx hb dL_law_146 (by decide) ?_
              refine lv_goto (tgt := 151) hx hb dL_law_147 (by decide) ?_
              exact J151 g7 g8 g9 g10 g11 g12 G9 G10 G11 G12 uH uC uT uI uM uG q99_0 (upd f99_0 l99_12.toNatClampNeg v13) n99_0 q99_1 (upd f99_1 l99_12.toNatClampNeg (vp_nar .boolean v15)) n99_1 l99_3 l99_5 l99_6 l99_8 l99_9 l99_12 v12 (1 : Int32) l99_7 kc sc (by omega) (by omega) _ _ hP hD hS _ (lv_sub hl [1, 2, 3, 4, 5, 6, 8, 9, 10, 11, 12, 0] rfl) hok
      intro g7 g8 g9 g10 g11 g12 G9 G10 G11 G12 uH uC uT uI uM uG l22_3 kc sc hkc hsc H locs hP hD hS ls hl hok
      rw [p_L_law_L22] at hok
      refine lv_iload_n hx hb dL_law_22 rfl (lv_at hl 3 rfl) ?_
      refine lv_bipush (v := (30 : Int32)) hx hb dL_law_23 (by decide) ?_
      refine lv_icmp_ge (tgt := 1401) hx hb dL_law_25 (by decide) (fun hc => ?_) (fun hc => ?_)
      · have hok := ip hok hc
        refine lv_aload_n hx hb dL_law_1401 rfl (lv_at hl 2 rfl) ?_
        refine lv_aload_n hx hb dL_law_1402 rfl (lv_at hl 1 rfl) ?_
        obtain ⟨v1, hc1, hok⟩ := bd_some hok
        have hP := tw_P hP
        have hD := tw_D hD
        refine cAVi (ci := 5) (q0 := 28) [.ref n0] S hK hO hP hD hS hA (c_X5_isSame l dC dI cI cZ cJ n0 h0 h3 h4 h5 h6 c0 c8 c9 c10 c11 c12 c13 t0 t8 t9 t10 t11 t12 t13 i0 i1 i2 i3 i4 m0 m1 m2 g0 g7 g8 g9 g10 g11 g12 G9 G10 G11 G12 _ uH uC uT uI uM uG hc1) (lw_V qm_L_208 qi_X5_isSame qs_X5_isSame qn_X5 qc_X5_isSame) hd_X5_isSame ⟨rfl, rfl⟩ ⟨Nat.le_of_ble_eq_true rfl, Nat.le_of_ble_eq_true rfl⟩ ⟨by show kc + 1 ≤ 600130; omega, by show sc + 8 ≤ 7301080; omega⟩ rfl rfl rfl hl.1 (Nat.le_of_ble_eq_true rfl) rfl dL_law_1403 (fun a9 H locs hP hD hS => ?_)
        obtain ⟨hv2, hok⟩ := gq_some hok
        rw [hv2]
        refine va_forget (fun q hq => hA2 _ (hS.2.2 q hq)) ?_
        refine W.widen (k := 600130) (n := 7301080) (by omega) (by omega) ?_
        exact W.base (lw_ret (Drawn.sameBut.refl s.drawn lw_cs) hx hb hr hlk dL_law_1406)
      · have hok := iq hok hc
        refine lv_aload_n hx hb dL_law_28 rfl (lv_at hl 0 rfl) ?_
        refine lv_iload_n hx hb dL_law_29 rfl (lv_at hl 3 rfl) ?_
        refine lv_bipush (v := (16 : Int32)) hx hb dL_law_30 (by decide) ?_
        refine lv_irem hx hb dL_law_32 (by decide) ?_
        obtain ⟨v3, hc3, hok⟩ := bd_some hok
        refine cCell S hXs hbl hbA hS (c_L_cell l b Lc xv (l22_3 - l22_3 / (16 : Int32) * (16 : Int32)) hc3) (lw_S qm_L_94 qt_L_cell qn_L qc_L_cell) hd_L_cell ⟨rfl, rfl⟩ ⟨Nat.le_of_ble_eq_true rfl, Nat.le_of_ble_eq_true rfl⟩ ⟨by show kc ≤ 600130; omega, by show sc ≤ 7301080; omega⟩ rfl hl.1 (Nat.le_of_ble_eq_true rfl) rfl dL_law_33 ?_
        refine lv_iload_n hx hb dL_law_36 rfl (lv_at hl 3 rfl) ?_
        refine lv_bipush (v := (16 : Int32)) hx hb dL_law_37 (by decide) ?_
        refine lv_idiv hx hb dL_law_39 (by decide) ?_
        refine lv_iconst (v := (3 : Int32)) hx hb dL_law_40 (by decide) ?_
        refine lv_imul hx hb dL_law_41 ?_
        refine lv_ishr hx hb dL_law_42 ?_
        refine lv_sipush (v := (743 : Int32)) hx hb dL_law_43 (by decide) ?_
        refine lv_iload_n hx hb dL_law_46 rfl (lv_at hl 3 rfl) ?_
        refine lv_imul hx hb dL_law_47 ?_
        refine lv_iadd hx hb dL_law_48 ?_
        refine lv_istore (lv' := [(4, .int ((v3 >>> (((l22_3 / (16 : Int32)) * (3 : Int32)) &&& 31)) + ((743 : Int32) * l22_3))), (0, .ref b), (1, .ref n0), (2, .ref g0), (3, .int l22_3)]) hx hb dL_law_49 hl (by decide) rfl (fun ls hl => ?_)
        refine lv_aload_n hx hb dL_law_51 rfl (lv_at hl 2 rfl) ?_
        refine lv_aload_n hx hb dL_law_52 rfl (lv_at hl 3 rfl) ?_
        refine lv_iload hx hb dL_law_53 (lv_at hl 0 rfl) ?_
        obtain ⟨v4, hc4, hok⟩ := bd_some hok
        have hP := tw_P hP
        have hD := tw_D hD
        refine cASi [.ref n0, .ref g0, .int ((v3 >>> (((l22_3 / (16 : Int32)) * (3 : Int32)) &&& 31)) + ((743 : Int32) * l22_3))] S hK hO hP hD hS hA (c_L_act l dC dI cI cZ cJ n0 h0 h3 h4 h5 h6 c0 c8 c9 c10 c11 c12 c13 t0 t8 t9 t10 t11 t12 t13 i0 i1 i2 i3 i4 m0 m1 m2 g0 g7 g8 g9 g10 g11 g12 G9 G10 G11 G12 _ uH uC uT uI uM uG ((v3 >>> (((l22_3 / (16 : Int32)) * (3 : Int32)) &&& 31)) + ((743 : Int32) * l22_3)) hc4) (lw_S qm_L_98 qt_L_act qn_L qc_L_act) hd_L_act ⟨rfl, rfl⟩ ⟨Nat.le_of_ble_eq_true rfl, Nat.le_of_ble_eq_true rfl⟩ ⟨by show kc + 122 ≤ 600130; omega, by show sc + 8235 ≤ 7301080; omega⟩ rfl hl.1 (Nat.le_of_ble_eq_true rfl) rfl dL_law_55 (fun a9 H locs hP hD hS => ?_)
        have hP := wt_P hP
        have hD := wt_D hD
        obtain ⟨g7_5, g8_5, g9_5, g10_5, g11_5, g12_5, G9_5, G10_5, G11_5, G12_5⟩ := a9
        have hP : va_P (dC, dI) vwCl ((wN cI cZ n0 h0 h3 h4 h5 h6 c0 c8 c9 c10 c11 c12 c13 t0 t8 t9 t10 t11 t12 t13 i0 i1 i2 i3 i4 m0 m1 m2 v4.2.1 v4.2.2.1 uT v4.2.2.2.1 v4.2.2.2.2.1) ++ (wX5 cI cZ cJ g0 g7_5 g8_5 g9_5 g10_5 g11_5 g12_5 G9_5 G10_5 G11_5 G12_5 v4.2.2.2.2.2 ++ ([] : va_W))) H := hP
        have hD : va_D A ((wN cI cZ n0 h0 h3 h4 h5 h6 c0 c8 c9 c10 c11 c12 c13 t0 t8 t9 t10 t11 t12 t13 i0 i1 i2 i3 i4 m0 m1 m2 v4.2.1 v4.2.2.1 uT v4.2.2.2.1 v4.2.2.2.2.1) ++ (wX5 cI cZ cJ g0 g7_5 g8_5 g9_5 g10_5 g11_5 g12_5 G9_5 G10_5 G11_5 G12_5 v4.2.2.2.2.2 ++ ([] : va_W))) := hD
        refine lv_if_ne (tgt := 63) hx hb dL_law_58 (by decide) (fun hc => ?_) (fun hc => ?_)
        · have hok := iq hok hc
          refine lv_aload_n hx hb dL_law_63 rfl (lv_at hl 2 rfl) ?_
          obtain ⟨v6, hc6, hok⟩ := bd_some hok
          refine cRVi (ci := 4) (q0 := 0) [] S hK2 (va_Pmid (wa := []) hP) (c_X4_floors l dC dI cI cZ n0 h0 h3 h4 h5 h6 c0 c8 c9 c10 c11 c12 c13 t0 t8 t9 t10 t11 t12 t13 i0 i1 i2 i3 i4 m0 m1 m2 v4.2.1 v4.2.2.1 uT v4.2.2.2.1 v4.2.2.2.2.1 hc6) (lw_V qm_L_107 qi_X4_floors qs_X4_floors qn_X4 qc_X4_floors) hd_X4_floors ⟨rfl, rfl⟩ ⟨Nat.le_of_ble_eq_true rfl, Nat.le_of_ble_eq_true rfl⟩ ⟨by show (kc + 122) ≤ 600130; omega, by show (sc + 8235) ≤ 7301080; omega⟩ rfl rfl rfl hl.1 (Nat.le_of_ble_eq_true rfl) rfl dL_law_64 ?_
          refine lv_istore (lv' := [(5, .int v6), (4, .int ((v3 >>> (((l22_3 / (16 : Int32)) * (3 : Int32)) &&& 31)) + ((743 : Int32) * l22_3))), (0, .ref b), (1, .ref n0), (2, .ref g0), (3, .int l22_3)]) hx hb dL_law_67 hl (by decide) rfl (fun ls hl => ?_)
          refine lv_aload_n hx hb dL_law_69 rfl (lv_at hl 3 rfl) ?_
          obtain ⟨v7, hc7, hok⟩ := bd_some hok
          refine cRVi (ci := 4) (q0 := 0) [] S hK2 (va_Pmid (wa := []) hP) (c_X4_instalments l dC dI cI cZ n0 h0 h3 h4 h5 h6 c0 c8 c9 c10 c11 c12 c13 t0 t8 t9 t10 t11 t12 t13 i0 i1 i2 i3 i4 m0 m1 m2 v4.2.1 v4.2.2.1 uT v4.2.2.2.1 v4.2.2.2.2.1 hc7) (lw_V qm_L_110 qi_X4_instalments qs_X4_instalments qn_X4 qc_X4_instalments) hd_X4_instalments ⟨rfl, rfl⟩ ⟨Nat.le_of_ble_eq_true rfl, Nat.le_of_ble_eq_true rfl⟩ ⟨by show (kc + 122) ≤ 600130; omega, by show (sc + 8235) ≤ 7301080; omega⟩ rfl rfl rfl hl.1 (Nat.le_of_ble_eq_true rfl) rfl dL_law_70 ?_
          refine lv_istore (lv' := [(6, .int v7), (5, .int v6), (4, .int ((v3 >>> (((l22_3 / (16 : Int32)) * (3 : Int32)) &&& 31)) + ((743 : Int32) * l22_3))), (0, .ref b), (1, .ref n0), (2, .ref g0), (3, .int l22_3)]) hx hb dL_law_73 hl (by decide) rfl (fun ls hl => ?_)
          refine lv_iconst (v := (0 : Int32)) hx hb dL_law_75 (by decide) ?_
          refine lv_istore (lv' := [(7, .int (0 : Int32)), (6, .int v7), (5, .int v6), (4, .int ((v3 >>> (((l22_3 / (16 : Int32)) * (3 : Int32)) &&& 31)) + ((743 : Int32) * l22_3))), (0, .ref b), (1, .ref n0), (2, .ref g0), (3, .int l22_3)]) hx hb dL_law_76 hl (by decide) rfl (fun ls hl => ?_)
          refine lv_iconst (v := (0 : Int32)) hx hb dL_law_78 (by decide) ?_
          refine lv_istore (lv' := [(8, .int (0 : Int32)), (7, .int (0 : Int32)), (6, .int v7), (5, .int v6), (4, .int ((v3 >>> (((l22_3 / (16 : Int32)) * (3 : Int32)) &&& 31)) + ((743 : Int32) * l22_3))), (0, .ref b), (1, .ref n0), (2, .ref g0), (3, .int l22_3)]) hx hb dL_law_79 hl (by decide) rfl (fun ls hl => ?_)
          refine lv_iconst (v := (0 : Int32)) hx hb dL_law_81 (by decide) ?_
          refine lv_istore (lv' := [(9, .int (0 : Int32)), (8, .int (0 : Int32)), (7, .int (0 : Int32)), (6, .int v7), (5, .int v6), (4, .int ((v3 >>> (((l22_3 / (16 : Int32)) * (3 : Int32)) &&& 31)) + ((743 : Int32) * l22_3))), (0, .ref b), (1, .ref n0), (2, .ref g0), (3, .int l22_3)]) hx hb dL_law_82 hl (by decide) rfl (fun ls hl => ?_)
          refine lv_iload hx hb dL_law_84 (lv_at hl 4 rfl) ?_
          obtain ⟨hg9, hok⟩ := gL_some hok
          refine va_newaI (n := v6.toNatClampNeg) hx hb (hts _ qy_int) hK 0 rfl hP hD hS hA hg9.1 rfl (by have := hg9.2; omega) (by show (kc + 122) + 1 ≤ 600130; omega) (by have := hg9.2; show (sc + 8235) + _ ≤ 7301080; omega) dL_law_86 (fun q8 H hP hD hS => ?_)
          refine W.widen (k := (kc + 122) + 1) (n := (sc + 8235) + 12) (Nat.le_refl _) (Nat.add_le_add_left hg9.2 _) ?_
          have hP := ra_P hP
          have hD := ra_D hD
          have hP : va_P (dC, dI) vwCl ((wN cI cZ n0 h0 h3 h4 h5 h6 c0 c8 c9 c10 c11 c12 c13 t0 t8 t9 t10 t11 t12 t13 i0 i1 i2 i3 i4 m0 m1 m2 v4.2.1 v4.2.2.1 uT v4.2.2.2.1 v4.2.2.2.2.1) ++ (wX5 cI cZ cJ g0 g7_5 g8_5 g9_5 g10_5 g11_5 g12_5 G9_5 G10_5 G11_5 G12_5 v4.2.2.2.2.2 ++ [(q8, .inl (cI, v6.toNatClampNeg, .inl (fun _ => (0 : Int32))))])) H := hP
          have hD : va_D A ((wN cI cZ n0 h0 h3 h4 h5 h6 c0 c8 c9 c10 c11 c12 c13 t0 t8 t9 t10 t11 t12 t13 i0 i1 i2 i3 i4 m0 m1 m2 v4.2.1 v4.2.2.1 uT v4.2.2.2.1 v4.2.2.2.2.1) ++ (wX5 cI cZ cJ g0 g7_5 g8_5 g9_5 g10_5 g11_5 g12_5 G9_5 G10_5 G11_5 G12_5 v4.2.2.2.2.2 ++ [(q8, .inl (cI, v6.toNatClampNeg, .inl (fun _ => (0 : Int32))))])) := hD
          refine lv_astore (lv' := [(10, .ref q8), (9, .int (0 : Int32)), (8, .int (0 : Int32)), (7, .int (0 : Int32)), (6, .int v7), (5, .int v6), (4, .int ((v3 >>> (((l22_3 / (16 : Int32)) * (3 : Int32)) &&& 31)) + ((743 : Int32) * l22_3))), (0, .ref b), (1, .ref n0), (2, .ref g0), (3, .int l22_3)]) hx hb dL_law_88 hl (by decide) rfl (fun ls hl => ?_)
          refine lv_iload hx hb dL_law_90 (lv_at hl 5 rfl) ?_
          obtain ⟨hg11, hok⟩ := gL_some hok
          refine va_newaZ (n := v6.toNatClampNeg) hx hb (hts _ qy_boolean) hK 1 rfl hP hD hS hA hg11.1 rfl (by have := hg11.2; omega) (by show ((kc + 122) + 1) + 1 ≤ 600130; omega) (by have := hg11.2; show ((sc + 8235) + 12) + _ ≤ 7301080; omega) dL_law_92 (fun q10 H hP hD hS => ?_)
          refine W.widen (k := ((kc + 122) + 1) + 1) (n := ((sc + 8235) + 12) + 12) (Nat.le_refl _) (Nat.add_le_add_left hg11.2 _) ?_
          have hP := ra_P hP
          have hD := ra_D hD
          have hP : va_P (dC, dI) vwCl ((wN cI cZ n0 h0 h3 h4 h5 h6 c0 c8 c9 c10 c11 c12 c13 t0 t8 t9 t10 t11 t12 t13 i0 i1 i2 i3 i4 m0 m1 m2 v4.2.1 v4.2.2.1 uT v4.2.2.2.1 v4.2.2.2.2.1) ++ (wX5 cI cZ cJ g0 g7_5 g8_5 g9_5 g10_5 g11_5 g12_5 G9_5 G10_5 G11_5 G12_5 v4.2.2.2.2.2 ++ [(q8, .inl (cI, v6.toNatClampNeg, .inl (fun _ => (0 : Int32)))), (q10, .inl (cZ, v6.toNatClampNeg, .inl (fun _ => (0 : Int32))))])) H := hP
          have hD : va_D A ((wN cI cZ n0 h0 h3 h4 h5 h6 c0 c8 c9 c10 c11 c12 c13 t0 t8 t9 t10 t11 t12 t13 i0 i1 i2 i3 i4 m0 m1 m2 v4.2.1 v4.2.2.1 uT v4.2.2.2.1 v4.2.2.2.2.1) ++ (wX5 cI cZ cJ g0 g7_5 g8_5 g9_5 g10_5 g11_5 g12_5 G9_5 G10_5 G11_5 G12_5 v4.2.2.2.2.2 ++ [(q8, .inl (cI, v6.toNatClampNeg, .inl (fun _ => (0 : Int32)))), (q10, .inl (cZ, v6.toNatClampNeg, .inl (fun _ => (0 : Int32))))])) := hD
          refine lv_astore (lv' := [(11, .ref q10), (10, .ref q8), (9, .int (0 : Int32)), (8, .int (0 : Int32)), (7, .int (0 : Int32)), (6, .int v7), (5, .int v6), (4, .int ((v3 >>> (((l22_3 / (16 : Int32)) * (3 : Int32)) &&& 31)) + ((743 : Int32) * l22_3))), (0, .ref b), (1, .ref n0), (2, .ref g0), (3, .int l22_3)]) hx hb dL_law_94 hl (by decide) rfl (fun ls hl => ?_)
          refine lv_iconst (v := (0 : Int32)) hx hb dL_law_96 (by decide) ?_
          refine lv_istore (lv' := [(12, .int (0 : Int32)), (11, .ref q10), (10, .ref q8), (9, .int (0 : Int32)), (8, .int (0 : Int32)), (7, .int (0 : Int32)), (6, .int v7), (5, .int v6), (4, .int ((v3 >>> (((l22_3 / (16 : Int32)) * (3 : Int32)) &&& 31)) + ((743 : Int32) * l22_3))), (0, .ref b), (1, .ref n0), (2, .ref g0), (3, .int l22_3)]) hx hb dL_law_97 hl (by decide) rfl (fun ls hl => ?_)
          exact L99 200 g7_5 g8_5 g9_5 g10_5 g11_5 g12_5 G9_5 G10_5 G11_5 G12_5 v4.2.1 v4.2.2.1 uT v4.2.2.2.1 v4.2.2.2.2.1 v4.2.2.2.2.2 q8 (fun _ => (0 : Int32)) v6.toNatClampNeg q10 (fun _ => (0 : Int32)) v6.toNatClampNeg l22_3 v6 v7 (0 : Int32) (0 : Int32) (0 : Int32) (0 : Int32) (((kc + 122) + 1) + 1) (((sc + 8235) + 12) + 12) (by omega) (by omega) _ _ hP hD hS _ (lv_sub hl [9, 10, 11, 12, 7, 6, 5, 4, 3, 2, 1, 0] rfl) hok
        · have hok := ip hok hc
          refine lv_iconst (v := (0 : Int32)) hx hb dL_law_61 (by decide) ?_
          cases hok
  unfold p_L_law at hok
  refine lv_iconst (v := (0 : Int32)) hx hb dL_law_20 (by decide) ?_
  refine lv_istore_n (lv' := [(3, .int (0 : Int32)), (0, .ref b), (1, .ref n0), (2, .ref g0)]) hx hb dL_law_21 rfl hl (by decide) rfl (fun ls hl => ?_)
  exact L22 31 g7 g8 g9 g10 g11 g12 G9 G10 G11 G12 uH uC uT uI uM uG (0 : Int32) kc sc (by omega) (by omega) _ _ hP hD hS _ (lv_sub hl [1, 2, 3, 0] rfl) hok
