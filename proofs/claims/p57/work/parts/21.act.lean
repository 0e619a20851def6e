def p_L_act_J614  (uH : tX1) (uC : tX0) (uT : tX0) (uI : tX2) (uM : tX3) (uG : tX5) (s614_0 : Int32) (s614_1 : Int32) (s614_2 : Int32) : Option (Int32 × tX1 × tX0 × tX2 × tX3 × tX5) :=
  bd (p_L_below s614_1 s614_0) (fun v41 =>
  bd (p_X4_passHours uH uC uT uI uM (s614_2 + v41)) (fun v42 =>
  bd (p_X5_behind uG (s614_2 + v41)) (fun v43 =>
  if v42.1 = v43.1 then
    some ((1 : Int32), uH, v42.2.1, v42.2.2, uM, v43.2)
  else
    some ((0 : Int32), uH, v42.2.1, v42.2.2, uM, v43.2))))
def p_L_act_J595  (uH : tX1) (uC : tX0) (uT : tX0) (uI : tX2) (uM : tX3) (uG : tX5) (l595_2 : Int32) : Option (Int32 × tX1 × tX0 × tX2 × tX3 × tX5) :=
  bd (p_L_below l595_2 (9 : Int32)) (fun v3 =>
  if v3 = 0 then
    p_L_act_J614 uH uC uT uI uM uG (60 : Int32) (l595_2 >>> ((2 : Int32) &&& 31)) (1 : Int32)
  else
    p_L_act_J614 uH uC uT uI uM uG (5 : Int32) (l595_2 >>> ((2 : Int32) &&& 31)) (1 : Int32))
def p_L_act_J568  (uH : tX1) (uC : tX0) (uT : tX0) (uI : tX2) (uM : tX3) (uG : tX5) (l568_4 : Int32) (s568_0 : Int32) : Option (Int32 × tX1 × tX0 × tX2 × tX3 × tX5) :=
  gd l568_4 uG.2.2.2.2.2.2.2.1.1 (
  bd (p_X4_call uH uC uT uI uM l568_4) (fun v51 =>
  if v51.1 = s568_0 then
    some ((1 : Int32), uH, v51.2, uI, uM, (uG.1, uG.2.1, uG.2.2.1, uG.2.2.2.1, uG.2.2.2.2.1, uG.2.2.2.2.2.1, uG.2.2.2.2.2.2.1, (uG.2.2.2.2.2.2.2.1.1, (upd uG.2.2.2.2.2.2.2.1.2 l568_4.toNatClampNeg (vp_nar .boolean (1 : Int32)))), uG.2.2.2.2.2.2.2.2))
  else
    some ((0 : Int32), uH, v51.2, uI, uM, (uG.1, uG.2.1, uG.2.2.1, uG.2.2.2.1, uG.2.2.2.2.1, uG.2.2.2.2.2.1, uG.2.2.2.2.2.2.1, (uG.2.2.2.2.2.2.2.1.1, (upd uG.2.2.2.2.2.2.2.1.2 l568_4.toNatClampNeg (vp_nar .boolean (1 : Int32)))), uG.2.2.2.2.2.2.2.2))))
def p_L_act_J553  (uH : tX1) (uC : tX0) (uT : tX0) (uI : tX2) (uM : tX3) (uG : tX5) (l553_4 : Int32) : Option (Int32 × tX1 × tX0 × tX2 × tX3 × tX5) :=
  gd l553_4 uG.2.2.2.2.2.2.2.1.1 (
  if (uG.2.2.2.2.2.2.2.1.2 l553_4.toNatClampNeg) = 0 then
    p_L_act_J568 uH uC uT uI uM uG l553_4 (1 : Int32)
  else
    p_L_act_J568 uH uC uT uI uM uG l553_4 (0 : Int32))
def p_L_act_J485  (uH : tX1) (uC : tX0) (uT : tX0) (uI : tX2) (uM : tX3) (uG : tX5) (l485_2 : Int32) (l485_4 : Int32) : Option (Int32 × tX1 × tX0 × tX2 × tX3 × tX5) :=
  gd l485_4 uG.2.2.2.2.2.2.2.2.2.1.1 (
  if (nI (uG.2.2.2.2.2.2.2.2.2.1.2 l485_4.toNatClampNeg).1) = (20 : Int32) then
    some ((1 : Int32), uH, uC, uI, uM, uG)
  else
    bd (p_L_below (l485_2 >>> ((3 : Int32) &&& 31)) (8 : Int32)) (fun v33 =>
    bd (p_L_below (l485_2 >>> ((5 : Int32) &&& 31)) (10 : Int32)) (fun v34 =>
    bd (p_X4_addParagraph uH uC uT uI uM l485_4 v33 v34) (fun v35 =>
    bd (p_L_below (l485_2 >>> ((3 : Int32) &&& 31)) (8 : Int32)) (fun v36 =>
    bd (p_L_below (l485_2 >>> ((5 : Int32) &&& 31)) (10 : Int32)) (fun v37 =>
    bd (p_X5_add uG l485_4 v36 v37) (fun v38 =>
    if v35.1 = v38.1 then
      some ((1 : Int32), v35.2, uC, uI, uM, v38.2)
    else
      some ((0 : Int32), v35.2, uC, uI, uM, v38.2))))))))
def p_L_act_J444  (uH : tX1) (uC : tX0) (uT : tX0) (uI : tX2) (uM : tX3) (uG : tX5) (l444_2 : Int32) : Option (Int32 × tX1 × tX0 × tX2 × tX3 × tX5) :=
  bd (p_L_below l444_2 (3 : Int32)) (fun v30 =>
  if v30 ≤ 0 then
    bd (p_X4_repair uH uC uT uI uM) (fun v31 =>
    if v31.1 = uG.2.2.2.1 then
      some ((1 : Int32), uH, v31.2, uI, uM, (uG.1, uG.2.1, uG.2.2.1, (0 : Int32), (0 : Int32), uG.2.2.2.2.2))
    else
      some ((0 : Int32), uH, v31.2, uI, uM, (uG.1, uG.2.1, uG.2.2.1, (0 : Int32), (0 : Int32), uG.2.2.2.2.2)))
  else
    some ((1 : Int32), uH, uC, uI, uM, uG))
def p_L_act_J359  (uH : tX1) (uC : tX0) (uT : tX0) (uI : tX2) (uM : tX3) (uG : tX5) (l359_2 : Int32) : Option (Int32 × tX1 × tX0 × tX2 × tX3 × tX5) :=
  if (nI uG.2.2.2.2.2.2.2.2.2.2.2.1.1) = (4 : Int32) then
    some ((1 : Int32), uH, uC, uI, uM, uG)
  else
    bd (p_L_below l359_2 (8 : Int32)) (fun v23 =>
    bd (p_L_below (l359_2 >>> ((3 : Int32) &&& 31)) (7 : Int32)) (fun v24 =>
    gN uG.2.2.2.2.2.2.2.2.2.2.2.1.1 129 (
    bd (p_X4_addMirror uH uC uT uI uM v23 (((v23 + (1 : Int32)) + v24) - ((v23 + (1 : Int32)) + v24) / (8 : Int32) * (8 : Int32))) (fun v29 =>
    if v29.1 = ((nI (pR uG.2.2.2.2.2.2.2.2.2.2.2.1 (2, (upd (upd (fun _ => (0 : Int32)) 0 v23) 1 (((v23 + (1 : Int32)) + v24) - ((v23 + (1 : Int32)) + v24) / (8 : Int32) * (8 : Int32))))).1) - (1 : Int32)) then
      some ((1 : Int32), uH, uC, uI, v29.2, (uG.1, uG.2.1, uG.2.2.1, uG.2.2.2.1, uG.2.2.2.2.1, uG.2.2.2.2.2.1, uG.2.2.2.2.2.2.1, uG.2.2.2.2.2.2.2.1, uG.2.2.2.2.2.2.2.2.1, uG.2.2.2.2.2.2.2.2.2.1, uG.2.2.2.2.2.2.2.2.2.2.1, (pR uG.2.2.2.2.2.2.2.2.2.2.2.1 (2, (upd (upd (fun _ => (0 : Int32)) 0 v23) 1 (((v23 + (1 : Int32)) + v24) - ((v23 + (1 : Int32)) + v24) / (8 : Int32) * (8 : Int32))))), uG.2.2.2.2.2.2.2.2.2.2.2.2))
    else
      some ((0 : Int32), uH, uC, uI, v29.2, (uG.1, uG.2.1, uG.2.2.1, uG.2.2.2.1, uG.2.2.2.2.1, uG.2.2.2.2.2.1, uG.2.2.2.2.2.2.1, uG.2.2.2.2.2.2.2.1, uG.2.2.2.2.2.2.2.2.1, uG.2.2.2.2.2.2.2.2.2.1, uG.2.2.2.2.2.2.2.2.2.2.1, (pR uG.2.2.2.2.2.2.2.2.2.2.2.1 (2, (upd (upd (fun _ => (0 : Int32)) 0 v23) 1 (((v23 + (1 : Int32)) + v24) - ((v23 + (1 : Int32)) + v24) / (8 : Int32) * (8 : Int32))))), uG.2.2.2.2.2.2.2.2.2.2.2.2))))))
def p_L_act_J275  (uH : tX1) (uC : tX0) (uT : tX0) (uI : tX2) (uM : tX3) (uG : tX5) (l275_2 : Int32) : Option (Int32 × tX1 × tX0 × tX2 × tX3 × tX5) :=
  if (nI uG.2.2.2.2.2.2.2.2.2.2.1.1) = (8 : Int32) then
    some ((1 : Int32), uH, uC, uI, uM, uG)
  else
    bd (p_L_below l275_2 (8 : Int32)) (fun v15 =>
    bd (p_L_below (l275_2 >>> ((3 : Int32) &&& 31)) (20 : Int32)) (fun v16 =>
    gN uG.2.2.2.2.2.2.2.2.2.2.1.1 129 (
    gd (0 : Int32) (((pR uG.2.2.2.2.2.2.2.2.2.2.1 (3, (upd (upd (upd (fun _ => (0 : Int32)) 0 v15) 1 ((1 : Int32) + v16)) 2 (1 : Int32)))).2 uG.2.2.2.2.2.2.2.2.2.2.1.1).1) (
    gd (1 : Int32) (((pR uG.2.2.2.2.2.2.2.2.2.2.1 (3, (upd (upd (upd (fun _ => (0 : Int32)) 0 v15) 1 ((1 : Int32) + v16)) 2 (1 : Int32)))).2 uG.2.2.2.2.2.2.2.2.2.2.1.1).1) (
    bd (p_X4_addReader uH uC uT uI uM (((pR uG.2.2.2.2.2.2.2.2.2.2.1 (3, (upd (upd (upd (fun _ => (0 : Int32)) 0 v15) 1 ((1 : Int32) + v16)) 2 (1 : Int32)))).2 uG.2.2.2.2.2.2.2.2.2.2.1.1).2 0) (((pR uG.2.2.2.2.2.2.2.2.2.2.1 (3, (upd (upd (upd (fun _ => (0 : Int32)) 0 v15) 1 ((1 : Int32) + v16)) 2 (1 : Int32)))).2 uG.2.2.2.2.2.2.2.2.2.2.1.1).2 1)) (fun v22 =>
    if v22.1 = ((nI (pR uG.2.2.2.2.2.2.2.2.2.2.1 (3, (upd (upd (upd (fun _ => (0 : Int32)) 0 v15) 1 ((1 : Int32) + v16)) 2 (1 : Int32)))).1) - (1 : Int32)) then
      some ((1 : Int32), v22.2.1, v22.2.2, uI, uM, (uG.1, uG.2.1, uG.2.2.1, uG.2.2.2.1, uG.2.2.2.2.1, uG.2.2.2.2.2.1, uG.2.2.2.2.2.2.1, uG.2.2.2.2.2.2.2.1, uG.2.2.2.2.2.2.2.2.1, uG.2.2.2.2.2.2.2.2.2.1, (pR uG.2.2.2.2.2.2.2.2.2.2.1 (3, (upd (upd (upd (fun _ => (0 : Int32)) 0 v15) 1 ((1 : Int32) + v16)) 2 (1 : Int32)))), uG.2.2.2.2.2.2.2.2.2.2.2))
    else
      some ((0 : Int32), v22.2.1, v22.2.2, uI, uM, (uG.1, uG.2.1, uG.2.2.1, uG.2.2.2.1, uG.2.2.2.2.1, uG.2.2.2.2.2.1, uG.2.2.2.2.2.2.1, uG.2.2.2.2.2.2.2.1, uG.2.2.2.2.2.2.2.2.1, uG.2.2.2.2.2.2.2.2.2.1, (pR uG.2.2.2.2.2.2.2.2.2.2.1 (3, (upd (upd (upd (fun _ => (0 : Int32)) 0 v15) 1 ((1 : Int32) + v16)) 2 (1 : Int32)))), uG.2.2.2.2.2.2.2.2.2.2.2))))))))
def p_L_act_J249  (uH : tX1) (uC : tX0) (uT : tX0) (uI : tX2) (uM : tX3) (uG : tX5) (l249_6 : Int32) (s249_0 : Int32) (s249_1 : Int32) (s249_2 : Int32) : Option (Int32 × tX1 × tX0 × tX2 × tX3 × tX5) :=
  bd (p_L_below s249_1 s249_0) (fun v48 =>
  bd (p_X4_setLimit uH uC uT uI uM (s249_2 + v48)) (fun v49 =>
  if v49.1 = l249_6 then
    some ((1 : Int32), v49.2, uC, uI, uM, (uG.1, uG.2.1, uG.2.2.1, uG.2.2.2.1, uG.2.2.2.2.1, (s249_2 + v48), uG.2.2.2.2.2.2))
  else
    some ((0 : Int32), v49.2, uC, uI, uM, (uG.1, uG.2.1, uG.2.2.1, uG.2.2.2.1, uG.2.2.2.2.1, (s249_2 + v48), uG.2.2.2.2.2.2))))
def p_L_act_J223  (uH : tX1) (uC : tX0) (uT : tX0) (uI : tX2) (uM : tX3) (uG : tX5) (l223_2 : Int32) : Option (Int32 × tX1 × tX0 × tX2 × tX3 × tX5) :=
  bd (p_L_below l223_2 (2 : Int32)) (fun v13 =>
  if v13 = 0 then
    p_L_act_J249 uH uC uT uI uM uG uG.2.2.2.2.2.1 (99 : Int32) (l223_2 >>> ((1 : Int32) &&& 31)) (1 : Int32)
  else
    p_L_act_J249 uH uC uT uI uM uG uG.2.2.2.2.2.1 (12 : Int32) (l223_2 >>> ((1 : Int32) &&& 31)) (1 : Int32))
def p_L_act_J200  (uH : tX1) (uC : tX0) (uT : tX0) (uI : tX2) (uM : tX3) (uG : tX5) (l200_5 : Int32) (s200_0 : Int32) (s200_1 : Int32) : Option (Int32 × tX1 × tX0 × tX2 × tX3 × tX5) :=
  gd s200_1 8 (
  bd (p_X4_turnTopic uH uC uT uI uM l200_5) (fun v46 =>
  gd l200_5 8 (
  if v46.1 = ((upd uG.2.2.2.2.2.2.2.2.1 s200_1.toNatClampNeg (vp_nar .boolean s200_0)) l200_5.toNatClampNeg) then
    some ((1 : Int32), uH, v46.2, uI, uM, (uG.1, uG.2.1, uG.2.2.1, uG.2.2.2.1, uG.2.2.2.2.1, uG.2.2.2.2.2.1, uG.2.2.2.2.2.2.1, uG.2.2.2.2.2.2.2.1, (upd uG.2.2.2.2.2.2.2.2.1 s200_1.toNatClampNeg (vp_nar .boolean s200_0)), uG.2.2.2.2.2.2.2.2.2))
  else
    some ((0 : Int32), uH, v46.2, uI, uM, (uG.1, uG.2.1, uG.2.2.1, uG.2.2.2.1, uG.2.2.2.2.1, uG.2.2.2.2.2.1, uG.2.2.2.2.2.2.1, uG.2.2.2.2.2.2.2.1, (upd uG.2.2.2.2.2.2.2.2.1 s200_1.toNatClampNeg (vp_nar .boolean s200_0)), uG.2.2.2.2.2.2.2.2.2)))))
def p_L_act_J171  (uH : tX1) (uC : tX0) (uT : tX0) (uI : tX2) (uM : tX3) (uG : tX5) (l171_2 : Int32) : Option (Int32 × tX1 × tX0 × tX2 × tX3 × tX5) :=
  bd (p_L_below l171_2 (8 : Int32)) (fun v11 =>
  gd v11 8 (
  if (uG.2.2.2.2.2.2.2.2.1 v11.toNatClampNeg) = 0 then
    p_L_act_J200 uH uC uT uI uM uG v11 (1 : Int32) v11
  else
    p_L_act_J200 uH uC uT uI uM uG v11 (0 : Int32) v11))
def p_L_act_J120  (uH : tX1) (uC : tX0) (uT : tX0) (uI : tX2) (uM : tX3) (uG : tX5) (l120_2 : Int32) : Option (Int32 × tX1 × tX0 × tX2 × tX3 × tX5) :=
  bd (p_L_below l120_2 (3 : Int32)) (fun v4 =>
  if v4 ≤ 0 then
    bd (p_L_below (l120_2 >>> ((2 : Int32) &&& 31)) (11 : Int32)) (fun v5 =>
    bd (p_X5_begin uG ((2 : Int32) + v5)) (fun v6 =>
    bd (p_L_below (l120_2 >>> ((2 : Int32) &&& 31)) (11 : Int32)) (fun v8 =>
    bd (p_X4_begin uH uC uT uI uM ((2 : Int32) + v8)) (fun v9 =>
    bd (p_X5_subscribers v6) (fun v10 =>
    if v9.1 = v10 then
      some ((1 : Int32), v9.2.1, v9.2.2.1, v9.2.2.2, uM, v6)
    else
      some ((0 : Int32), v9.2.1, v9.2.2.1, v9.2.2.2, uM, v6))))))
  else
    some ((1 : Int32), uH, uC, uI, uM, uG))
def p_L_act (uH : tX1) (uC : tX0) (uT : tX0) (uI : tX2) (uM : tX3) (uG : tX5) (a3 : Int32) : Option (Int32 × tX1 × tX0 × tX2 × tX3 × tX5) :=
  bd (p_L_below (a3 >>> ((1 : Int32) &&& 31)) (nI uG.2.2.2.2.2.2.2.2.2.1.1)) (fun v1 =>
  bd (p_L_below (a3 >>> ((9 : Int32) &&& 31)) (24 : Int32)) (fun v2 =>
  if v2.toInt < 0 ∨ 19 < v2.toInt then
    p_L_act_J595 uH uC uT uI uM uG a3
  else
    if v2 = 0 then
      p_L_act_J120 uH uC uT uI uM uG a3
    else
      if v2 = 1 then
        p_L_act_J171 uH uC uT uI uM uG a3
      else
        if v2 = 2 then
          p_L_act_J171 uH uC uT uI uM uG a3
        else
          if v2 = 3 then
            p_L_act_J223 uH uC uT uI uM uG a3
          else
            if v2 = 4 then
              p_L_act_J275 uH uC uT uI uM uG a3
            else
              if v2 = 5 then
                p_L_act_J275 uH uC uT uI uM uG a3
              else
                if v2 = 6 then
                  p_L_act_J359 uH uC uT uI uM uG a3
                else
                  if v2 = 7 then
                    p_L_act_J444 uH uC uT uI uM uG a3
                  else
                    if v2 = 8 then
                      p_L_act_J485 uH uC uT uI uM uG a3 v1
                    else
                      if v2 = 9 then
                        p_L_act_J485 uH uC uT uI uM uG a3 v1
                      else
                        if v2 = 10 then
                          p_L_act_J485 uH uC uT uI uM uG a3 v1
                        else
                          if v2 = 11 then
                            p_L_act_J485 uH uC uT uI uM uG a3 v1
                          else
                            if v2 = 12 then
                              p_L_act_J485 uH uC uT uI uM uG a3 v1
                            else
                              if v2 = 13 then
                                p_L_act_J485 uH uC uT uI uM uG a3 v1
                              else
                                if v2 = 14 then
                                  p_L_act_J553 uH uC uT uI uM uG v1
                                else
                                  if v2 = 15 then
                                    p_L_act_J553 uH uC uT uI uM uG v1
                                  else
                                    if v2 = 16 then
                                      p_L_act_J553 uH uC uT uI uM uG v1
                                    else
                                      if v2 = 17 then
                                        p_L_act_J553 uH uC uT uI uM uG v1
                                      else
                                        if v2 = 18 then
                                          p_L_act_J553 uH uC uT uI uM uG v1
                                        else
                                          if v2 = 19 then
                                            p_L_act_J553 uH uC uT uI uM uG v1
                                          else
                                            none))
set_option maxHeartbeats 4000000 in
set_option maxRecDepth 100000 in
theorem c_L_act (l : Launch) (dC : Nat → ClassId) (dI : Nat → Nat → Nat) (cI cZ cJ : ClassId) (n0 h0 h3 h4 h5 h6 c0 c8 c9 c10 c11 c12 c13 t0 t8 t9 t10 t11 t12 t13 i0 i1 i2 i3 i4 m0 m1 m2 g0 : Nat) (g7 g8 g9 g10 g11 g12 : Nat) (G9 G10 G11 G12 : Nat → Nat) (sz : Nat) (uH : tX1) (uC : tX0) (uT : tX0) (uI : tX2) (uM : tX3) (uG : tX5) (a3 : Int32) {z : (Int32 × tX1 × tX0 × tX2 × tX3 × tX5)} (hok : p_L_act uH uC uT uI uM uG a3 = some z) : Met l yL_act (Cond.code yL_act cL_act 13 (some .boolean) :: lw_all) { frames := 5, cells := 122, slots := 8235, locals := 114 } (prA (dC, dI) vwCl (TYG cI cZ cJ) ((wN cI cZ n0 h0 h3 h4 h5 h6 c0 c8 c9 c10 c11 c12 c13 t0 t8 t9 t10 t11 t12 t13 i0 i1 i2 i3 i4 m0 m1 m2 uH uC uT uI uM) ++ (wX5 cI cZ cJ g0 g7 g8 g9 g10 g11 g12 G9 G10 G11 G12 uG)) sz [.ref n0, .ref g0, .int a3]) (va_Qi (fun (r : Int32) (_ : (Nat × Nat × Nat × Nat × Nat × Nat × (Nat → Nat) × (Nat → Nat) × (Nat → Nat) × (Nat → Nat))) => r = z.1) (fun a9 t => va_P (dC, dI) vwCl ((wN cI cZ n0 h0 h3 h4 h5 h6 c0 c8 c9 c10 c11 c12 c13 t0 t8 t9 t10 t11 t12 t13 i0 i1 i2 i3 i4 m0 m1 m2 z.2.1 z.2.2.1 uT z.2.2.2.1 z.2.2.2.2.1) ++ wX5 cI cZ cJ g0 a9.1 a9.2.1 a9.2.2.1 a9.2.2.2.1 a9.2.2.2.2.1 a9.2.2.2.2.2.1 a9.2.2.2.2.2.2.1 a9.2.2.2.2.2.2.2.1 a9.2.2.2.2.2.2.2.2.1 a9.2.2.2.2.2.2.2.2.2 z.2.2.2.2.2) t.heap ∧ va_D (va_A ((wN cI cZ n0 h0 h3 h4 h5 h6 c0 c8 c9 c10 c11 c12 c13 t0 t8 t9 t10 t11 t12 t13 i0 i1 i2 i3 i4 m0 m1 m2 uH uC uT uI uM) ++ (wX5 cI cZ cJ g0 g7 g8 g9 g10 g11 g12 G9 G10 G11 G12 uG)) sz) ((wN cI cZ n0 h0 h3 h4 h5 h6 c0 c8 c9 c10 c11 c12 c13 t0 t8 t9 t10 t11 t12 t13 i0 i1 i2 i3 i4 m0 m1 m2 z.2.1 z.2.2.1 uT z.2.2.2.1 z.2.2.2.2.1) ++ wX5 cI cZ cJ g0 a9.1 a9.2.1 a9.2.2.1 a9.2.2.2.1 a9.2.2.2.2.1 a9.2.2.2.2.2.1 a9.2.2.2.2.2.2.1 a9.2.2.2.2.2.2.2.1 a9.2.2.2.2.2.2.2.2.1 a9.2.2.2.2.2.2.2.2.2 z.2.2.2.2.2)) (va_A ((wN cI cZ n0 h0 h3 h4 h5 h6 c0 c8 c9 c10 c11 c12 c13 t0 t8 t9 t10 t11 t12 t13 i0 i1 i2 i3 i4 m0 m1 m2 uH uC uT uI uM) ++ (wX5 cI cZ cJ g0 g7 g8 g9 g10 g11 g12 G9 G10 G11 G12 uG)) sz)) 122 8235 (va_A ((wN cI cZ n0 h0 h3 h4 h5 h6 c0 c8 c9 c10 c11 c12 c13 t0 t8 t9 t10 t11 t12 t13 i0 i1 i2 i3 i4 m0 m1 m2 uH uC uT uI uM) ++ (wX5 cI cZ cJ g0 g7 g8 g9 g10 g11 g12 G9 G10 G11 G12 uG)) sz) := by
  refine oM (by decide) (Nat.le_of_ble_eq_true rfl) ?_
  intro p e s m args below meth c S hr hlk hnm hB ls hl
  have hx := S.1
  have hb := S.2.1
  have hml := S.2.2.1
  have hown : s.vm.findClass RL = some m.cls := S.2.2.2.1
  have hts := S.2.2.2.2
  have S : CallFix p m c cL_act 13 s args lw_all RL := S
  have hl : lv_has ls 13 [(0, .ref n0), (1, .ref g0), (2, .int a3)] := hl
  obtain ⟨hsz, hP, hK, hD0, hO⟩ := hB
  subst hsz
  have hD := hD0.self (sz := s.heap.size)
  generalize hAe : va_A ((wN cI cZ n0 h0 h3 h4 h5 h6 c0 c8 c9 c10 c11 c12 c13 t0 t8 t9 t10 t11 t12 t13 i0 i1 i2 i3 i4 m0 m1 m2 uH uC uT uI uM) ++ (wX5 cI cZ cJ g0 g7 g8 g9 g10 g11 g12 G9 G10 G11 G12 uG)) s.heap.size = A at hD ⊢
  have hA : ∀ q : Nat, s.heap.size ≤ q → A q := fun q h => by rw [← hAe]; exact Or.inr h
  have hS : va_S A s.heap s.heap [] := va_S.rf
  have hP : va_P (dC, dI) vwCl ((wN cI cZ n0 h0 h3 h4 h5 h6 c0 c8 c9 c10 c11 c12 c13 t0 t8 t9 t10 t11 t12 t13 i0 i1 i2 i3 i4 m0 m1 m2 uH uC uT uI uM) ++ ((wX5 cI cZ cJ g0 g7 g8 g9 g10 g11 g12 G9 G10 G11 G12 uG) ++ ([] : va_W))) s.heap := zx_P  hP
  have hD : va_D A ((wN cI cZ n0 h0 h3 h4 h5 h6 c0 c8 c9 c10 c11 c12 c13 t0 t8 t9 t10 t11 t12 t13 i0 i1 i2 i3 i4 m0 m1 m2 uH uC uT uI uM) ++ ((wX5 cI cZ cJ g0 g7 g8 g9 g10 g11 g12 G9 G10 G11 G12 uG) ++ ([] : va_W))) := zx_D  hD
  have hK2 : va_K (dC, dI) vwCl (TYS cI cZ) s := hK.sub [0, 1] rfl
  have J614 : ∀ (g7 : Nat) (g8 : Nat) (g9 : Nat) (g10 : Nat) (g11 : Nat) (g12 : Nat) (G9 : (Nat → Nat)) (G10 : (Nat → Nat)) (G11 : (Nat → Nat)) (G12 : (Nat → Nat)) (uH : tX1) (uC : tX0) (uI : tX2) (uM : tX3) (uG : tX5) (s614_0 : Int32) (s614_1 : Int32) (s614_2 : Int32) (H : Heap) (locs : List Loc) (hP : va_P (dC, dI) vwCl ((wN cI cZ n0 h0 h3 h4 h5 h6 c0 c8 c9 c10 c11 c12 c13 t0 t8 t9 t10 t11 t12 t13 i0 i1 i2 i3 i4 m0 m1 m2 uH uC uT uI uM) ++ (wX5 cI cZ cJ g0 g7 g8 g9 g10 g11 g12 G9 G10 G11 G12 uG ++ ([] : va_W))) H) (hD : va_D A ((wN cI cZ n0 h0 h3 h4 h5 h6 c0 c8 c9 c10 c11 c12 c13 t0 t8 t9 t10 t11 t12 t13 i0 i1 i2 i3 i4 m0 m1 m2 uH uC uT uI uM) ++ (wX5 cI cZ cJ g0 g7 g8 g9 g10 g11 g12 G9 G10 G11 G12 uG ++ ([] : va_W)))) (hS : va_S A s.heap H locs) (ls : Array Slot) (hl : lv_has ls 13 [(0, .ref n0), (1, .ref g0)]) (hok : p_L_act_J614 uH uC uT uI uM uG s614_0 s614_1 s614_2 = some z), W p l e { frames := 5, cells := 122, slots := 8235, locals := 114 } s m args below meth c H locs 0 0 (MQ below (va_Qi (fun (r : Int32) (_ : (Nat × Nat × Nat × Nat × Nat × Nat × (Nat → Nat) × (Nat → Nat) × (Nat → Nat) × (Nat → Nat))) => r = z.1) (fun a9 t => va_P (dC, dI) vwCl ((wN cI cZ n0 h0 h3 h4 h5 h6 c0 c8 c9 c10 c11 c12 c13 t0 t8 t9 t10 t11 t12 t13 i0 i1 i2 i3 i4 m0 m1 m2 z.2.1 z.2.2.1 uT z.2.2.2.1 z.2.2.2.2.1) ++ wX5 cI cZ cJ g0 a9.1 a9.2.1 a9.2.2.1 a9.2.2.2.1 a9.2.2.2.2.1 a9.2.2.2.2.2.1 a9.2.2.2.2.2.2.1 a9.2.2.2.2.2.2.2.1 a9.2.2.2.2.2.2.2.2.1 a9.2.2.2.2.2.2.2.2.2 z.2.2.2.2.2) t.heap ∧ va_D A ((wN cI cZ n0 h0 h3 h4 h5 h6 c0 c8 c9 c10 c11 c12 c13 t0 t8 t9 t10 t11 t12 t13 i0 i1 i2 i3 i4 m0 m1 m2 z.2.1 z.2.2.1 uT z.2.2.2.1 z.2.2.2.2.1) ++ wX5 cI cZ cJ g0 a9.1 a9.2.1 a9.2.2.1 a9.2.2.2.1 a9.2.2.2.2.1 a9.2.2.2.2.2.1 a9.2.2.2.2.2.2.1 a9.2.2.2.2.2.2.2.1 a9.2.2.2.2.2.2.2.2.1 a9.2.2.2.2.2.2.2.2.2 z.2.2.2.2.2)) A) args s 122 8235 A) (F0 m 614 ls [.int s614_0, .int s614_1, .int s614_2]) := by
    intro g7 g8 g9 g10 g11 g12 G9 G10 G11 G12 uH uC uI uM uG s614_0 s614_1 s614_2 H locs hP hD hS ls hl hok
    unfold p_L_act_J614 at hok
    obtain ⟨v41, hc41, hok⟩ := bd_some hok
    refine cRSi [.int s614_1, .int s614_0] S hK2 va_Pnil (c_L_below l dC dI cI cZ s614_1 s614_0 hc41) (lw_S qm_L_15 qt_L_below qn_L qc_L_below) hd_L_below ⟨rfl, rfl⟩ ⟨Nat.le_of_ble_eq_true rfl, Nat.le_of_ble_eq_true rfl⟩ ⟨Nat.le_of_ble_eq_true rfl, Nat.le_of_ble_eq_true rfl⟩ rfl hl.1 (Nat.le_of_ble_eq_true rfl) rfl dL_act_614 ?_
    refine lv_iadd hx hb dL_act_617 ?_
    refine lv_istore (lv' := [(12, .int (s614_2 + v41)), (0, .ref n0), (1, .ref g0)]) hx hb dL_act_618 hl (by decide) rfl (fun ls hl => ?_)
    refine lv_aload_n hx hb dL_act_620 rfl (lv_at hl 1 rfl) ?_
    refine lv_iload hx hb dL_act_621 (lv_at hl 0 rfl) ?_
    obtain ⟨v42, hc42, hok⟩ := bd_some hok
    refine cUVi (ci := 4) (q0 := 0) [.int (s614_2 + v41)] S hK2 (va_Pmid (wa := []) hP) (va_Dmid (wa := []) hD) hS hA (c_X4_passHours l dC dI cI cZ n0 h0 h3 h4 h5 h6 c0 c8 c9 c10 c11 c12 c13 t0 t8 t9 t10 t11 t12 t13 i0 i1 i2 i3 i4 m0 m1 m2 _ uH uC uT uI uM (s614_2 + v41) hc42) (lw_V qm_L_87 qi_X4_passHours qs_X4_passHours qn_X4 qc_X4_passHours) hd_X4_passHours ⟨rfl, rfl⟩ ⟨Nat.le_of_ble_eq_true rfl, Nat.le_of_ble_eq_true rfl⟩ ⟨Nat.le_of_ble_eq_true rfl, Nat.le_of_ble_eq_true rfl⟩ rfl rfl rfl hl.1 (Nat.le_of_ble_eq_true rfl) rfl dL_act_623 (fun H1 hk9 h9 => fr_joinM (wa := []) hP hD K_N hk9 h9) (va_Dmids (wa := []) K_N hD) (fun H locs hP hD hS => ?_)
    have hP : va_P (dC, dI) vwCl ((wN cI cZ n0 h0 h3 h4 h5 h6 c0 c8 c9 c10 c11 c12 c13 t0 t8 t9 t10 t11 t12 t13 i0 i1 i2 i3 i4 m0 m1 m2 uH v42.2.1 uT v42.2.2 uM) ++ (wX5 cI cZ cJ g0 g7 g8 g9 g10 g11 g12 G9 G10 G11 G12 uG ++ ([] : va_W))) H := hP
    have hD : va_D A ((wN cI cZ n0 h0 h3 h4 h5 h6 c0 c8 c9 c10 c11 c12 c13 t0 t8 t9 t10 t11 t12 t13 i0 i1 i2 i3 i4 m0 m1 m2 uH v42.2.1 uT v42.2.2 uM) ++ (wX5 cI cZ cJ g0 g7 g8 g9 g10 g11 g12 G9 G10 G11 G12 uG ++ ([] : va_W))) := hD
    refine lv_aload_n hx hb dL_act_626 rfl (lv_at hl 2 rfl) ?_
    refine lv_iload hx hb dL_act_627 (lv_at hl 0 rfl) ?_
    obtain ⟨v43, hc43, hok⟩ := bd_some hok
    refine cAVi (ci := 5) (q0 := 0) [.int (s614_2 + v41)] S hK hO hP hD hS hA (c_X5_behind l dC dI cI cZ cJ g0 g7 g8 g9 g10 g11 g12 G9 G10 G11 G12 _ uG (s614_2 + v41) hc43) (lw_V qm_L_90 qi_X5_behind qs_X5_behind qn_X5 qc_X5_behind) hd_X5_behind ⟨rfl, rfl⟩ ⟨Nat.le_of_ble_eq_true rfl, Nat.le_of_ble_eq_true rfl⟩ ⟨Nat.le_of_ble_eq_true rfl, Nat.le_of_ble_eq_true rfl⟩ rfl rfl rfl hl.1 (Nat.le_of_ble_eq_true rfl) rfl dL_act_629 (fun a9 H locs hP hD hS => ?_)
    obtain ⟨g7_44, g8_44, g9_44, g10_44, g11_44, g12_44, G9_44, G10_44, G11_44, G12_44⟩ := a9
    have hP : va_P (dC, dI) vwCl ((wN cI cZ n0 h0 h3 h4 h5 h6 c0 c8 c9 c10 c11 c12 c13 t0 t8 t9 t10 t11 t12 t13 i0 i1 i2 i3 i4 m0 m1 m2 uH v42.2.1 uT v42.2.2 uM) ++ (wX5 cI cZ cJ g0 g7_44 g8_44 g9_44 g10_44 g11_44 g12_44 G9_44 G10_44 G11_44 G12_44 v43.2 ++ ([] : va_W))) H := hP
    have hD : va_D A ((wN cI cZ n0 h0 h3 h4 h5 h6 c0 c8 c9 c10 c11 c12 c13 t0 t8 t9 t10 t11 t12 t13 i0 i1 i2 i3 i4 m0 m1 m2 uH v42.2.1 uT v42.2.2 uM) ++ (wX5 cI cZ cJ g0 g7_44 g8_44 g9_44 g10_44 g11_44 g12_44 G9_44 G10_44 G11_44 G12_44 v43.2 ++ ([] : va_W))) := hD
    refine lv_icmp_ne (tgt := 639) hx hb dL_act_632 (by decide) (fun hc => ?_) (fun hc => ?_)
    · have hok := iq hok hc
      refine lv_iconst (v := (0 : Int32)) hx hb dL_act_639 (by decide) ?_
      have hok := Option.some.inj hok
      subst hok
      exact eAz S hr hlk (by decide) rfl (g7_44, g8_44, g9_44, g10_44, g11_44, g12_44, G9_44, G10_44, G11_44, G12_44) (nx_P hP) (nx_D hD) hS (Nat.le_of_ble_eq_true rfl) (Nat.le_of_ble_eq_true rfl) dL_act_640
    · have hok := ip hok hc
      refine lv_iconst (v := (1 : Int32)) hx hb dL_act_635 (by decide) ?_
      refine lv_goto (tgt := 640) hx hb dL_act_636 (by decide) ?_
      have hok := Option.some.inj hok
      subst hok
      exact eAz S hr hlk (by decide) rfl (g7_44, g8_44, g9_44, g10_44, g11_44, g12_44, G9_44, G10_44, G11_44, G12_44) (nx_P hP) (nx_D hD) hS (Nat.le_of_ble_eq_true rfl) (Nat.le_of_ble_eq_true rfl) dL_act_640
  have J595 : ∀ (g7 : Nat) (g8 : Nat) (g9 : Nat) (g10 : Nat) (g11 : Nat) (g12 : Nat) (G9 : (Nat → Nat)) (G10 : (Nat → Nat)) (G11 : (Nat → Nat)) (G12 : (Nat → Nat)) (uH : tX1) (uC : tX0) (uI : tX2) (uM : tX3) (uG : tX5) (l595_2 : Int32) (H : Heap) (locs : List Loc) (hP : va_P (dC, dI) vwCl ((wN cI cZ n0 h0 h3 h4 h5 h6 c0 c8 c9 c10 c11 c12 c13 t0 t8 t9 t10 t11 t12 t13 i0 i1 i2 i3 i4 m0 m1 m2 uH uC uT uI uM) ++ (wX5 cI cZ cJ g0 g7 g8 g9 g10 g11 g12 G9 G10 G11 G12 uG ++ ([] : va_W))) H) (hD : va_D A ((wN cI cZ n0 h0 h3 h4 h5 h6 c0 c8 c9 c10 c11 c12 c13 t0 t8 t9 t10 t11 t12 t13 i0 i1 i2 i3 i4 m0 m1 m2 uH uC uT uI uM) ++ (wX5 cI cZ cJ g0 g7 g8 g9 g10 g11 g12 G9 G10 G11 G12 uG ++ ([] : va_W)))) (hS : va_S A s.heap H locs) (ls : Array Slot) (hl : lv_has ls 13 [(0, .ref n0), (1, .ref g0), (2, .int l595_2)]) (hok : p_L_act_J595 uH uC uT uI uM uG l595_2 = some z), W p l e { frames := 5, cells := 122, slots := 8235, locals := 114 } s m args below meth c H locs 0 0 (MQ below (va_Qi (fun (r : Int32) (_ : (Nat × Nat × Nat × Nat × Nat × Nat × (Nat → Nat) × (Nat → Nat) × (Nat → Nat) × (Nat → Nat))) => r = z.1) (fun a9 t => va_P (dC, dI) vwCl ((wN cI cZ n0 h0 h3 h4 h5 h6 c0 c8 c9 c10 c11 c12 c13 t0 t8 t9 t10 t11 t12 t13 i0 i1 i2 i3 i4 m0 m1 m2 z.2.1 z.2.2.1 uT z.2.2.2.1 z.2.2.2.2.1) ++ wX5 cI cZ cJ g0 a9.1 a9.2.1 a9.2.2.1 a9.2.2.2.1 a9.2.2.2.2.1 a9.2.2.2.2.2.1 a9.2.2.2.2.2.2.1 a9.2.2.2.2.2.2.2.1 a9.2.2.2.2.2.2.2.2.1 a9.2.2.2.2.2.2.2.2.2 z.2.2.2.2.2) t.heap ∧ va_D A ((wN cI cZ n0 h0 h3 h4 h5 h6 c0 c8 c9 c10 c11 c12 c13 t0 t8 t9 t10 t11 t12 t13 i0 i1 i2 i3 i4 m0 m1 m2 z.2.1 z.2.2.1 uT z.2.2.2.1 z.2.2.2.2.1) ++ wX5 cI cZ cJ g0 a9.1 a9.2.1 a9.2.2.1 a9.2.2.2.1 a9.2.2.2.2.1 a9.2.2.2.2.2.1 a9.2.2.2.2.2.2.1 a9.2.2.2.2.2.2.2.1 a9.2.2.2.2.2.2.2.2.1 a9.2.2.2.2.2.2.2.2.2 z.2.2.2.2.2)) A) args s 122 8235 A) (F0 m 595 ls []) := by
    intro g7 g8 g9 g10 g11 g12 G9 G10 G11 G12 uH uC uI uM uG l595_2 H locs hP hD hS ls hl hok
    unfold p_L_act_J595 at hok
    refine lv_iconst (v := (1 : Int32)) hx hb dL_act_595 (by decide) ?_
    refine lv_iload_n hx hb dL_act_596 rfl (lv_at hl 2 rfl) ?_
    refine lv_iconst (v := (2 : Int32)) hx hb dL_act_597 (by decide) ?_
    refine lv_ishr hx hb dL_act_598 ?_
    refine lv_iload_n hx hb dL_act_599 rfl (lv_at hl 2 rfl) ?_
    refine lv_bipush (v := (9 : Int32)) hx hb dL_act_600 (by decide) ?_
    obtain ⟨v3, hc3, hok⟩ := bd_some hok
    refine cRSi [.int l595_2, .int (9 : Int32)] S hK2 va_Pnil (c_L_below l dC dI cI cZ l595_2 (9 : Int32) hc3) (lw_S qm_L_15 qt_L_below qn_L qc_L_below) hd_L_below ⟨rfl, rfl⟩ ⟨Nat.le_of_ble_eq_true rfl, Nat.le_of_ble_eq_true rfl⟩ ⟨Nat.le_of_ble_eq_true rfl, Nat.le_of_ble_eq_true rfl⟩ rfl hl.1 (Nat.le_of_ble_eq_true rfl) rfl dL_act_602 ?_
    refine lv_if_ne (tgt := 613) hx hb dL_act_605 (by decide) (fun hc => ?_) (fun hc => ?_)
    · have hok := iq hok hc
      refine lv_iconst (v := (5 : Int32)) hx hb dL_act_613 (by decide) ?_
      exact J614 g7 g8 g9 g10 g11 g12 G9 G10 G11 G12 uH uC uI uM uG (5 : Int32) (l595_2 >>> ((2 : Int32) &&& 31)) (1 : Int32) _ _ hP hD hS _ (lv_sub hl [0, 1] rfl) hok
    · have hok := ip hok hc
      refine lv_bipush (v := (60 : Int32)) hx hb dL_act_608 (by decide) ?_
      refine lv_goto (tgt := 614) hx hb dL_act_610 (by decide) ?_
      exact J614 g7 g8 g9 g10 g11 g12 G9 G10 G11 G12 uH uC uI uM uG (60 : Int32) (l595_2 >>> ((2 : Int32) &&& 31)) (1 : Int32) _ _ hP hD hS _ (lv_sub hl [0, 1] rfl) hok
  have J568 : ∀ (g7 : Nat) (g8 : Nat) (g9 : Nat) (g10 : Nat) (g11 : Nat) (g12 : Nat) (G9 : (Nat → Nat)) (G10 : (Nat → Nat)) (G11 : (Nat → Nat)) (G12 : (Nat → Nat)) (uH : tX1) (uC : tX0) (uI : tX2) (uM : tX3) (uG : tX5) (l568_4 : Int32) (s568_0 : Int32) (H : Heap) (locs : List Loc) (hP : va_P (dC, dI) vwCl ((wN cI cZ n0 h0 h3 h4 h5 h6 c0 c8 c9 c10 c11 c12 c13 t0 t8 t9 t10 t11 t12 t13 i0 i1 i2 i3 i4 m0 m1 m2 uH uC uT uI uM) ++ (wX5 cI cZ cJ g0 g7 g8 g9 g10 g11 g12 G9 G10 G11 G12 uG ++ ([] : va_W))) H) (hD : va_D A ((wN cI cZ n0 h0 h3 h4 h5 h6 c0 c8 c9 c10 c11 c12 c13 t0 t8 t9 t10 t11 t12 t13 i0 i1 i2 i3 i4 m0 m1 m2 uH uC uT uI uM) ++ (wX5 cI cZ cJ g0 g7 g8 g9 g10 g11 g12 G9 G10 G11 G12 uG ++ ([] : va_W)))) (hS : va_S A s.heap H locs) (ls : Array Slot) (hl : lv_has ls 13 [(0, .ref n0), (1, .ref g0), (4, .int l568_4)]) (hok : p_L_act_J568 uH uC uT uI uM uG l568_4 s568_0 = some z), W p l e { frames := 5, cells := 122, slots := 8235, locals := 114 } s m args below meth c H locs 0 0 (MQ below (va_Qi (fun (r : Int32) (_ : (Nat × Nat × Nat × Nat × Nat × Nat × (Nat → Nat) × (Nat → Nat) × (Nat → Nat) × (Nat → Nat))) => r = z.1) (fun a9 t => va_P (dC, dI) vwCl ((wN cI cZ n0 h0 h3 h4 h5 h6 c0 c8 c9 c10 c11 c12 c13 t0 t8 t9 t10 t11 t12 t13 i0 i1 i2 i3 i4 m0 m1 m2 z.2.1 z.2.2.1 uT z.2.2.2.1 z.2.2.2.2.1) ++ wX5 cI cZ cJ g0 a9.1 a9.2.1 a9.2.2.1 a9.2.2.2.1 a9.2.2.2.2.1 a9.2.2.2.2.2.1 a9.2.2.2.2.2.2.1 a9.2.2.2.2.2.2.2.1 a9.2.2.2.2.2.2.2.2.1 a9.2.2.2.2.2.2.2.2.2 z.2.2.2.2.2) t.heap ∧ va_D A ((wN cI cZ n0 h0 h3 h4 h5 h6 c0 c8 c9 c10 c11 c12 c13 t0 t8 t9 t10 t11 t12 t13 i0 i1 i2 i3 i4 m0 m1 m2 z.2.1 z.2.2.1 uT z.2.2.2.1 z.2.2.2.2.1) ++ wX5 cI cZ cJ g0 a9.1 a9.2.1 a9.2.2.1 a9.2.2.2.1 a9.2.2.2.2.1 a9.2.2.2.2.2.1 a9.2.2.2.2.2.2.1 a9.2.2.2.2.2.2.2.1 a9.2.2.2.2.2.2.2.2.1 a9.2.2.2.2.2.2.2.2.2 z.2.2.2.2.2)) A) args s 122 8235 A) (F0 m 568 ls [.int s568_0]) := by
    intro g7 g8 g9 g10 g11 g12 G9 G10 G11 G12 uH uC uI uM uG l568_4 s568_0 H locs hP hD hS ls hl hok
    unfold p_L_act_J568 at hok
    refine lv_istore (lv' := [(11, .int s568_0), (0, .ref n0), (1, .ref g0), (4, .int l568_4)]) hx hb dL_act_568 hl (by decide) rfl (fun ls hl => ?_)
    refine lv_aload_n hx hb dL_act_570 rfl (lv_at hl 2 rfl) ?_
    refine va_get (D := (dC, dI)) (ci := 5) (v := .ref g7) (C := RX5) (T := TX5) (N := 14) hx hb hts inX5 hown hK hP 28 rfl rfl 7 (by decide) (hts _ qf_L_81) (fun _ h9 => h9) rfl dL_act_571 ?_
    refine lv_iload hx hb dL_act_574 (lv_at hl 3 rfl) ?_
    refine lv_iconst (v := (1 : Int32)) hx hb dL_act_576 (by decide) ?_
    obtain ⟨hi50, hok⟩ := gd_some hok
    refine va_zast hx hb hK hP hD hS 29 1 rfl rfl hi50 dL_act_577 (fun H locs hP hD hS => ?_)
    have hP : va_P (dC, dI) vwCl ((wN cI cZ n0 h0 h3 h4 h5 h6 c0 c8 c9 c10 c11 c12 c13 t0 t8 t9 t10 t11 t12 t13 i0 i1 i2 i3 i4 m0 m1 m2 uH uC uT uI uM) ++ (wX5 cI cZ cJ g0 g7 g8 g9 g10 g11 g12 G9 G10 G11 G12 (uG.1, uG.2.1, uG.2.2.1, uG.2.2.2.1, uG.2.2.2.2.1, uG.2.2.2.2.2.1, uG.2.2.2.2.2.2.1, (uG.2.2.2.2.2.2.2.1.1, (upd uG.2.2.2.2.2.2.2.1.2 l568_4.toNatClampNeg (vp_nar .boolean (1 : Int32)))), uG.2.2.2.2.2.2.2.2) ++ ([] : va_W))) H := hP
    have hD : va_D A ((wN cI cZ n0 h0 h3 h4 h5 h6 c0 c8 c9 c10 c11 c12 c13 t0 t8 t9 t10 t11 t12 t13 i0 i1 i2 i3 i4 m0 m1 m2 uH uC uT uI uM) ++ (wX5 cI cZ cJ g0 g7 g8 g9 g10 g11 g12 G9 G10 G11 G12 (uG.1, uG.2.1, uG.2.2.1, uG.2.2.2.1, uG.2.2.2.2.1, uG.2.2.2.2.2.1, uG.2.2.2.2.2.2.1, (uG.2.2.2.2.2.2.2.1.1, (upd uG.2.2.2.2.2.2.2.1.2 l568_4.toNatClampNeg (vp_nar .boolean (1 : Int32)))), uG.2.2.2.2.2.2.2.2) ++ ([] : va_W))) := hD
    refine lv_aload_n hx hb dL_act_578 rfl (lv_at hl 1 rfl) ?_
    refine lv_iload hx hb dL_act_579 (lv_at hl 3 rfl) ?_
    obtain ⟨v51, hc51, hok⟩ := bd_some hok
    refine cUVi (ci := 4) (q0 := 0) [.int l568_4] S hK2 (va_Pmid (wa := []) hP) (va_Dmid (wa := []) hD) hS hA (c_X4_call l dC dI cI cZ n0 h0 h3 h4 h5 h6 c0 c8 c9 c10 c11 c12 c13 t0 t8 t9 t10 t11 t12 t13 i0 i1 i2 i3 i4 m0 m1 m2 _ uH uC uT uI uM l568_4 hc51) (lw_V qm_L_84 qi_X4_call qs_X4_call qn_X4 qc_X4_call) hd_X4_call ⟨rfl, rfl⟩ ⟨Nat.le_of_ble_eq_true rfl, Nat.le_of_ble_eq_true rfl⟩ ⟨Nat.le_of_ble_eq_true rfl, Nat.le_of_ble_eq_true rfl⟩ rfl rfl rfl hl.1 (Nat.le_of_ble_eq_true rfl) rfl dL_act_581 (fun H1 hk9 h9 => fr_joinM (wa := []) hP hD K_N hk9 h9) (va_Dmids (wa := []) K_N hD) (fun H locs hP hD hS => ?_)
    have hP : va_P (dC, dI) vwCl ((wN cI cZ n0 h0 h3 h4 h5 h6 c0 c8 c9 c10 c11 c12 c13 t0 t8 t9 t10 t11 t12 t13 i0 i1 i2 i3 i4 m0 m1 m2 uH v51.2 uT uI uM) ++ (wX5 cI cZ cJ g0 g7 g8 g9 g10 g11 g12 G9 G10 G11 G12 (uG.1, uG.2.1, uG.2.2.1, uG.2.2.2.1, uG.2.2.2.2.1, uG.2.2.2.2.2.1, uG.2.2.2.2.2.2.1, (uG.2.2.2.2.2.2.2.1.1, (upd uG.2.2.2.2.2.2.2.1.2 l568_4.toNatClampNeg (vp_nar .boolean (1 : Int32)))), uG.2.2.2.2.2.2.2.2) ++ ([] : va_W))) H := hP
    have hD : va_D A ((wN cI cZ n0 h0 h3 h4 h5 h6 c0 c8 c9 c10 c11 c12 c13 t0 t8 t9 t10 t11 t12 t13 i0 i1 i2 i3 i4 m0 m1 m2 uH v51.2 uT uI uM) ++ (wX5 cI cZ cJ g0 g7 g8 g9 g10 g11 g12 G9 G10 G11 G12 (uG.1, uG.2.1, uG.2.2.1, uG.2.2.2.1, uG.2.2.2.2.1, uG.2.2.2.2.2.1, uG.2.2.2.2.2.2.1, (uG.2.2.2.2.2.2.2.1.1, (upd uG.2.2.2.2.2.2.2.1.2 l568_4.toNatClampNeg (vp_nar .boolean (1 : Int32)))), uG.2.2.2.2.2.2.2.2) ++ ([] : va_W))) := hD
    refine lv_iload hx hb dL_act_584 (lv_at hl 0 rfl) ?_
    refine lv_icmp_ne (tgt := 593) hx hb dL_act_586 (by decide) (fun hc => ?_) (fun hc => ?_)
    · have hok := iq hok hc
      refine lv_iconst (v := (0 : Int32)) hx hb dL_act_593 (by decide) ?_
      have hok := Option.some.inj hok
      subst hok
      exact eAz S hr hlk (by decide) rfl (g7, g8, g9, g10, g11, g12, G9, G10, G11, G12) (nx_P hP) (nx_D hD) hS (Nat.le_of_ble_eq_true rfl) (Nat.le_of_ble_eq_true rfl) dL_act_594
    · have hok := ip hok hc
      refine lv_iconst (v := (1 : Int32)) hx hb dL_act_589 (by decide) ?_
      refine lv_goto (tgt := 594) hx hb dL_act_590 (by decide) ?_
      have hok := Option.some.inj hok
      subst hok
      exact eAz S hr hlk (by decide) rfl (g7, g8, g9, g10, g11, g12, G9, G10, G11, G12) (nx_P hP) (nx_D hD) hS (Nat.le_of_ble_eq_true rfl) (Nat.le_of_ble_eq_true rfl) dL_act_594
  have J553 : ∀ (g7 : Nat) (g8 : Nat) (g9 : Nat) (g10 : Nat) (g11 : Nat) (g12 : Nat) (G9 : (Nat → Nat)) (G10 : (Nat → Nat)) (G11 : (Nat → Nat)) (G12 : (Nat → Nat)) (uH : tX1) (uC : tX0) (uI : tX2) (uM : tX3) (uG : tX5) (l553_4 : Int32) (H : Heap) (locs : List Loc) (hP : va_P (dC, dI) vwCl ((wN cI cZ n0 h0 h3 h4 h5 h6 c0 c8 c9 c10 c11 c12 c13 t0 t8 t9 t10 t11 t12 t13 i0 i1 i2 i3 i4 m0 m1 m2 uH uC uT uI uM) ++ (wX5 cI cZ cJ g0 g7 g8 g9 g10 g11 g12 G9 G10 G11 G12 uG ++ ([] : va_W))) H) (hD : va_D A ((wN cI cZ n0 h0 h3 h4 h5 h6 c0 c8 c9 c10 c11 c12 c13 t0 t8 t9 t10 t11 t12 t13 i0 i1 i2 i3 i4 m0 m1 m2 uH uC uT uI uM) ++ (wX5 cI cZ cJ g0 g7 g8 g9 g10 g11 g12 G9 G10 G11 G12 uG ++ ([] : va_W)))) (hS : va_S A s.heap H locs) (ls : Array Slot) (hl : lv_has ls 13 [(0, .ref n0), (1, .ref g0), (4, .int l553_4)]) (hok : p_L_act_J553 uH uC uT uI uM uG l553_4 = some z), W p l e { frames := 5, cells := 122, slots := 8235, locals := 114 } s m args below meth c H locs 0 0 (MQ below (va_Qi (fun (r : Int32) (_ : (Nat × Nat × Nat × Nat × Nat × Nat × (Nat → Nat) × (Nat → Nat) × (Nat → Nat) × (Nat → Nat))) => r = z.1) (fun a9 t => va_P (dC, dI) vwCl ((wN cI cZ n0 h0 h3 h4 h5 h6 c0 c8 c9 c10 c11 c12 c13 t0 t8 t9 t10 t11 t12 t13 i0 i1 i2 i3 i4 m0 m1 m2 z.2.1 z.2.2.1 uT z.2.2.2.1 z.2.2.2.2.1) ++ wX5 cI cZ cJ g0 a9.1 a9.2.1 a9.2.2.1 a9.2.2.2.1 a9.2.2.2.2.1 a9.2.2.2.2.2.1 a9.2.2.2.2.2.2.1 a9.2.2.2.2.2.2.2.1 a9.2.2.2.2.2.2.2.2.1 a9.2.2.2.2.2.2.2.2.2 z.2.2.2.2.2) t.heap ∧ va_D A ((wN cI cZ n0 h0 h3 h4 h5 h6 c0 c8 c9 c10 c11 c12 c13 t0 t8 t9 t10 t11 t12 t13 i0 i1 i2 i3 i4 m0 m1 m2 z.2.1 z.2.2.1 uT z.2.2.2.1 z.2.2.2.2.1) ++ wX5 cI cZ cJ g0 a9.1 a9.2.1 a9.2.2.1 a9.2.2.2.1 a9.2.2.2.2.1 a9.2.2.2.2.2.1 a9.2.2.2.2.2.2.1 a9.2.2.2.2.2.2.2.1 a9.2.2.2.2.2.2.2.2.1 a9.2.2.2.2.2.2.2.2.2 z.2.2.2.2.2)) A) args s 122 8235 A) (F0 m 553 ls []) := by
    intro g7 g8 g9 g10 g11 g12 G9 G10 G11 G12 uH uC uI uM uG l553_4 H locs hP hD hS ls hl hok
    unfold p_L_act_J553 at hok
    refine lv_aload_n hx hb dL_act_553 rfl (lv_at hl 1 rfl) ?_
    refine va_get (D := (dC, dI)) (ci := 5) (v := .ref g7) (C := RX5) (T := TX5) (N := 14) hx hb hts inX5 hown hK hP 28 rfl rfl 7 (by decide) (hts _ qf_L_81) (fun _ h9 => h9) rfl dL_act_554 ?_
    refine lv_iload hx hb dL_act_557 (lv_at hl 2 rfl) ?_
    obtain ⟨hi40, hok⟩ := gd_some hok
    refine va_zald hx hb hK hP 29 1 rfl rfl hi40 dL_act_559 ?_
    refine lv_if_ne (tgt := 567) hx hb dL_act_560 (by decide) (fun hc => ?_) (fun hc => ?_)
    · have hok := iq hok hc
      refine lv_iconst (v := (0 : Int32)) hx hb dL_act_567 (by decide) ?_
      exact J568 g7 g8 g9 g10 g11 g12 G9 G10 G11 G12 uH uC uI uM uG l553_4 (0 : Int32) _ _ hP hD hS _ hl hok
    · have hok := ip hok hc
      refine lv_iconst (v := (1 : Int32)) hx hb dL_act_563 (by decide) ?_
      refine lv_goto (tgt := 568) hx hb dL_act_564 (by decide) ?_
      exact J568 g7 g8 g9 g10 g11 g12 G9 G10 G11 G12 uH uC uI uM uG l553_4 (1 : Int32) _ _ hP hD hS _ hl hok
  have J485 : ∀ (g7 : Nat) (g8 : Nat) (g9 : Nat) (g10 : Nat) (g11 : Nat) (g12 : Nat) (G9 : (Nat → Nat)) (G10 : (Nat → Nat)) (G11 : (Nat → Nat)) (G12 : (Nat → Nat)) (uH : tX1) (uC : tX0) (uI : tX2) (uM : tX3) (uG : tX5) (l485_2 : Int32) (l485_4 : Int32) (H : Heap) (locs : List Loc) (hP : va_P (dC, dI) vwCl ((wN cI cZ n0 h0 h3 h4 h5 h6 c0 c8 c9 c10 c11 c12 c13 t0 t8 t9 t10 t11 t12 t13 i0 i1 i2 i3 i4 m0 m1 m2 uH uC uT uI uM) ++ (wX5 cI cZ cJ g0 g7 g8 g9 g10 g11 g12 G9 G10 G11 G12 uG ++ ([] : va_W))) H) (hD : va_D A ((wN cI cZ n0 h0 h3 h4 h5 h6 c0 c8 c9 c10 c11 c12 c13 t0 t8 t9 t10 t11 t12 t13 i0 i1 i2 i3 i4 m0 m1 m2 uH uC uT uI uM) ++ (wX5 cI cZ cJ g0 g7 g8 g9 g10 g11 g12 G9 G10 G11 G12 uG ++ ([] : va_W)))) (hS : va_S A s.heap H locs) (ls : Array Slot) (hl : lv_has ls 13 [(0, .ref n0), (1, .ref g0), (2, .int l485_2), (4, .int l485_4)]) (hok : p_L_act_J485 uH uC uT uI uM uG l485_2 l485_4 = some z), W p l e { frames := 5, cells := 122, slots := 8235, locals := 114 } s m args below meth c H locs 0 0 (MQ below (va_Qi (fun (r : Int32) (_ : (Nat × Nat × Nat × Nat × Nat × Nat × (Nat → Nat) × (Nat → Nat) × (Nat → Nat) × (Nat → Nat))) => r = z.1) (fun a9 t => va_P (dC, dI) vwCl ((wN cI cZ n0 h0 h3 h4 h5 h6 c0 c8 c9 c10 c11 c12 c13 t0 t8 t9 t10 t11 t12 t13 i0 i1 i2 i3 i4 m0 m1 m2 z.2.1 z.2.2.1 uT z.2.2.2.1 z.2.2.2.2.1) ++ wX5 cI cZ cJ g0 a9.1 a9.2.1 a9.2.2.1 a9.2.2.2.1 a9.2.2.2.2.1 a9.2.2.2.2.2.1 a9.2.2.2.2.2.2.1 a9.2.2.2.2.2.2.2.1 a9.2.2.2.2.2.2.2.2.1 a9.2.2.2.2.2.2.2.2.2 z.2.2.2.2.2) t.heap ∧ va_D A ((wN cI cZ n0 h0 h3 h4 h5 h6 c0 c8 c9 c10 c11 c12 c13 t0 t8 t9 t10 t11 t12 t13 i0 i1 i2 i3 i4 m0 m1 m2 z.2.1 z.2.2.1 uT z.2.2.2.1 z.2.2.2.2.1) ++ wX5 cI cZ cJ g0 a9.1 a9.2.1 a9.2.2.1 a9.2.2.2.1 a9.2.2.2.2.1 a9.2.2.2.2.2.1 a9.2.2.2.2.2.2.1 a9.2.2.2.2.2.2.2.1 a9.2.2.2.2.2.2.2.2.1 a9.2.2.2.2.2.2.2.2.2 z.2.2.2.2.2)) A) args s 122 8235 A) (F0 m 485 ls []) := by
    intro g7 g8 g9 g10 g11 g12 G9 G10 G11 G12 uH uC uI uM uG l485_2 l485_4 H locs hP hD hS ls hl hok
    unfold p_L_act_J485 at hok
    refine lv_aload_n hx hb dL_act_485 rfl (lv_at hl 1 rfl) ?_
    refine va_get (D := (dC, dI)) (ci := 5) (v := .ref g9) (C := RX5) (T := TX5) (N := 14) hx hb hts inX5 hown hK hP 28 rfl rfl 9 (by decide) (hts _ qf_L_9) (fun _ h9 => h9) rfl dL_act_486 ?_
    refine lv_iload hx hb dL_act_489 (lv_at hl 3 rfl) ?_
    obtain ⟨hi32, hok⟩ := gd_some hok
    refine ra9 hx hb hK 2 rfl hP (j := l485_4.toNatClampNeg) rfl hi32 dL_act_491 ?_
    refine rn9 hx hb hK 0 rfl hP (k := l485_4.toNatClampNeg) (vp_inL rfl hi32) rfl dL_act_492 ?_
    refine lv_bipush (v := (20 : Int32)) hx hb dL_act_493 (by decide) ?_
    refine lv_icmp_ne (tgt := 500) hx hb dL_act_495 (by decide) (fun hc => ?_) (fun hc => ?_)
    · have hok := iq hok hc
      refine lv_aload_n hx hb dL_act_500 rfl (lv_at hl 0 rfl) ?_
      refine lv_iload hx hb dL_act_501 (lv_at hl 3 rfl) ?_
      refine lv_iload_n hx hb dL_act_503 rfl (lv_at hl 2 rfl) ?_
      refine lv_iconst (v := (3 : Int32)) hx hb dL_act_504 (by decide) ?_
      refine lv_ishr hx hb dL_act_505 ?_
      refine lv_bipush (v := (8 : Int32)) hx hb dL_act_506 (by decide) ?_
      obtain ⟨v33, hc33, hok⟩ := bd_some hok
      refine cRSi [.int (l485_2 >>> ((3 : Int32) &&& 31)), .int (8 : Int32)] S hK2 va_Pnil (c_L_below l dC dI cI cZ (l485_2 >>> ((3 : Int32) &&& 31)) (8 : Int32) hc33) (lw_S qm_L_15 qt_L_below qn_L qc_L_below) hd_L_below ⟨rfl, rfl⟩ ⟨Nat.le_of_ble_eq_true rfl, Nat.le_of_ble_eq_true rfl⟩ ⟨Nat.le_of_ble_eq_true rfl, Nat.le_of_ble_eq_true rfl⟩ rfl hl.1 (Nat.le_of_ble_eq_true rfl) rfl dL_act_508 ?_
      refine lv_iload_n hx hb dL_act_511 rfl (lv_at hl 2 rfl) ?_
      refine lv_iconst (v := (5 : Int32)) hx hb dL_act_512 (by decide) ?_
      refine lv_ishr hx hb dL_act_513 ?_
      refine lv_bipush (v := (10 : Int32)) hx hb dL_act_514 (by decide) ?_
      obtain ⟨v34, hc34, hok⟩ := bd_some hok
      refine cRSi [.int (l485_2 >>> ((5 : Int32) &&& 31)), .int (10 : Int32)] S hK2 va_Pnil (c_L_below l dC dI cI cZ (l485_2 >>> ((5 : Int32) &&& 31)) (10 : Int32) hc34) (lw_S qm_L_15 qt_L_below qn_L qc_L_below) hd_L_below ⟨rfl, rfl⟩ ⟨Nat.le_of_ble_eq_true rfl, Nat.le_of_ble_eq_true rfl⟩ ⟨Nat.le_of_ble_eq_true rfl, Nat.le_of_ble_eq_true rfl⟩ rfl hl.1 (Nat.le_of_ble_eq_true rfl) rfl dL_act_516 ?_
      obtain ⟨v35, hc35, hok⟩ := bd_some hok
      refine cUVi (ci := 4) (q0 := 0) [.int l485_4, .int v33, .int v34] S hK2 (va_Pmid (wa := []) hP) (va_Dmid (wa := []) hD) hS hA (c_X4_addParagraph l dC dI cI cZ n0 h0 h3 h4 h5 h6 c0 c8 c9 c10 c11 c12 c13 t0 t8 t9 t10 t11 t12 t13 i0 i1 i2 i3 i4 m0 m1 m2 _ uH uC uT uI uM l485_4 v33 v34 hc35) (lw_V qm_L_74 qi_X4_addParagraph qs_X4_addParagraph qn_X4 qc_X4_addParagraph) hd_X4_addParagraph ⟨rfl, rfl⟩ ⟨Nat.le_of_ble_eq_true rfl, Nat.le_of_ble_eq_true rfl⟩ ⟨Nat.le_of_ble_eq_true rfl, Nat.le_of_ble_eq_true rfl⟩ rfl rfl rfl hl.1 (Nat.le_of_ble_eq_true rfl) rfl dL_act_519 (fun H1 hk9 h9 => fr_joinM (wa := []) hP hD K_N hk9 h9) (va_Dmids (wa := []) K_N hD) (fun H locs hP hD hS => ?_)
      have hP : va_P (dC, dI) vwCl ((wN cI cZ n0 h0 h3 h4 h5 h6 c0 c8 c9 c10 c11 c12 c13 t0 t8 t9 t10 t11 t12 t13 i0 i1 i2 i3 i4 m0 m1 m2 v35.2 uC uT uI uM) ++ (wX5 cI cZ cJ g0 g7 g8 g9 g10 g11 g12 G9 G10 G11 G12 uG ++ ([] : va_W))) H := hP
      have hD : va_D A ((wN cI cZ n0 h0 h3 h4 h5 h6 c0 c8 c9 c10 c11 c12 c13 t0 t8 t9 t10 t11 t12 t13 i0 i1 i2 i3 i4 m0 m1 m2 v35.2 uC uT uI uM) ++ (wX5 cI cZ cJ g0 g7 g8 g9 g10 g11 g12 G9 G10 G11 G12 uG ++ ([] : va_W))) := hD
      refine lv_aload_n hx hb dL_act_522 rfl (lv_at hl 1 rfl) ?_
      refine lv_iload hx hb dL_act_523 (lv_at hl 3 rfl) ?_
      refine lv_iload_n hx hb dL_act_525 rfl (lv_at hl 2 rfl) ?_
      refine lv_iconst (v := (3 : Int32)) hx hb dL_act_526 (by decide) ?_
      refine lv_ishr hx hb dL_act_527 ?_
      refine lv_bipush (v := (8 : Int32)) hx hb dL_act_528 (by decide) ?_
      obtain ⟨v36, hc36, hok⟩ := bd_some hok
      refine cRSi [.int (l485_2 >>> ((3 : Int32) &&& 31)), .int (8 : Int32)] S hK2 va_Pnil (c_L_below l dC dI cI cZ (l485_2 >>> ((3 : Int32) &&& 31)) (8 : Int32) hc36) (lw_S qm_L_15 qt_L_below qn_L qc_L_below) hd_L_below ⟨rfl, rfl⟩ ⟨Nat.le_of_ble_eq_true rfl, Nat.le_of_ble_eq_true rfl⟩ ⟨Nat.le_of_ble_eq_true rfl, Nat.le_of_ble_eq_true rfl⟩ rfl hl.1 (Nat.le_of_ble_eq_true rfl) rfl dL_act_530 ?_
      refine lv_iload_n hx hb dL_act_533 rfl (lv_at hl 2 rfl) ?_
      refine lv_iconst (v := (5 : Int32)) hx hb dL_act_534 (by decide) ?_
      refine lv_ishr hx hb dL_act_535 ?_
      refine lv_bipush (v := (10 : Int32)) hx hb dL_act_536 (by decide) ?_
      obtain ⟨v37, hc37, hok⟩ := bd_some hok
      refine cRSi [.int (l485_2 >>> ((5 : Int32) &&& 31)), .int (10 : Int32)] S hK2 va_Pnil (c_L_below l dC dI cI cZ (l485_2 >>> ((5 : Int32) &&& 31)) (10 : Int32) hc37) (lw_S qm_L_15 qt_L_below qn_L qc_L_below) hd_L_below ⟨rfl, rfl⟩ ⟨Nat.le_of_ble_eq_true rfl, Nat.le_of_ble_eq_true rfl⟩ ⟨Nat.le_of_ble_eq_true rfl, Nat.le_of_ble_eq_true rfl⟩ rfl hl.1 (Nat.le_of_ble_eq_true rfl) rfl dL_act_538 ?_
      obtain ⟨v38, hc38, hok⟩ := bd_some hok
      refine cAVi (ci := 5) (q0 := 0) [.int l485_4, .int v36, .int v37] S hK hO hP hD hS hA (c_X5_add l dC dI cI cZ cJ g0 g7 g8 g9 g10 g11 g12 G9 G10 G11 G12 _ uG l485_4 v36 v37 hc38) (lw_V qm_L_78 qi_X5_add qs_X5_add qn_X5 qc_X5_add) hd_X5_add ⟨rfl, rfl⟩ ⟨Nat.le_of_ble_eq_true rfl, Nat.le_of_ble_eq_true rfl⟩ ⟨Nat.le_of_ble_eq_true rfl, Nat.le_of_ble_eq_true rfl⟩ rfl rfl rfl hl.1 (Nat.le_of_ble_eq_true rfl) rfl dL_act_541 (fun a9 H locs hP hD hS => ?_)
      obtain ⟨g7_39, g8_39, g9_39, g10_39, g11_39, g12_39, G9_39, G10_39, G11_39, G12_39⟩ := a9
      have hP : va_P (dC, dI) vwCl ((wN cI cZ n0 h0 h3 h4 h5 h6 c0 c8 c9 c10 c11 c12 c13 t0 t8 t9 t10 t11 t12 t13 i0 i1 i2 i3 i4 m0 m1 m2 v35.2 uC uT uI uM) ++ (wX5 cI cZ cJ g0 g7_39 g8_39 g9_39 g10_39 g11_39 g12_39 G9_39 G10_39 G11_39 G12_39 v38.2 ++ ([] : va_W))) H := hP
      have hD : va_D A ((wN cI cZ n0 h0 h3 h4 h5 h6 c0 c8 c9 c10 c11 c12 c13 t0 t8 t9 t10 t11 t12 t13 i0 i1 i2 i3 i4 m0 m1 m2 v35.2 uC uT uI uM) ++ (wX5 cI cZ cJ g0 g7_39 g8_39 g9_39 g10_39 g11_39 g12_39 G9_39 G10_39 G11_39 G12_39 v38.2 ++ ([] : va_W))) := hD
      refine lv_icmp_ne (tgt := 551) hx hb dL_act_544 (by decide) (fun hc => ?_) (fun hc => ?_)
      · have hok := iq hok hc
        refine lv_iconst (v := (0 : Int32)) hx hb dL_act_551 (by decide) ?_
        have hok := Option.some.inj hok
        subst hok
        exact eAz S hr hlk (by decide) rfl (g7_39, g8_39, g9_39, g10_39, g11_39, g12_39, G9_39, G10_39, G11_39, G12_39) (nx_P hP) (nx_D hD) hS (Nat.le_of_ble_eq_true rfl) (Nat.le_of_ble_eq_true rfl) dL_act_552
      · have hok := ip hok hc
        refine lv_iconst (v := (1 : Int32)) hx hb dL_act_547 (by decide) ?_
        refine lv_goto (tgt := 552) hx hb dL_act_548 (by decide) ?_
        have hok := Option.some.inj hok
        subst hok
        exact eAz S hr hlk (by decide) rfl (g7_39, g8_39, g9_39, g10_39, g11_39, g12_39, G9_39, G10_39, G11_39, G12_39) (nx_P hP) (nx_D hD) hS (Nat.le_of_ble_eq_true rfl) (Nat.le_of_ble_eq_true rfl) dL_act_552
    · have hok := ip hok hc
      refine lv_iconst (v := (1 : Int32)) hx hb dL_act_498 (by decide) ?_
      have hok := Option.some.inj hok
      subst hok
      exact eAz S hr hlk (by decide) rfl (g7, g8, g9, g10, g11, g12, G9, G10, G11, G12) (nx_P hP) (nx_D hD) hS (Nat.le_of_ble_eq_true rfl) (Nat.le_of_ble_eq_true rfl) dL_act_499
  have J444 : ∀ (g7 : Nat) (g8 : Nat) (g9 : Nat) (g10 : Nat) (g11 : Nat) (g12 : Nat) (G9 : (Nat → Nat)) (G10 : (Nat → Nat)) (G11 : (Nat → Nat)) (G12 : (Nat → Nat)) (uH : tX1) (uC : tX0) (uI : tX2) (uM : tX3) (uG : tX5) (l444_2 : Int32) (H : Heap) (locs : List Loc) (hP : va_P (dC, dI) vwCl ((wN cI cZ n0 h0 h3 h4 h5 h6 c0 c8 c9 c10 c11 c12 c13 t0 t8 t9 t10 t11 t12 t13 i0 i1 i2 i3 i4 m0 m1 m2 uH uC uT uI uM) ++ (wX5 cI cZ cJ g0 g7 g8 g9 g10 g11 g12 G9 G10 G11 G12 uG ++ ([] : va_W))) H) (hD : va_D A ((wN cI cZ n0 h0 h3 h4 h5 h6 c0 c8 c9 c10 c11 c12 c13 t0 t8 t9 t10 t11 t12 t13 i0 i1 i2 i3 i4 m0 m1 m2 uH uC uT uI uM) ++ (wX5 cI cZ cJ g0 g7 g8 g9 g10 g11 g12 G9 G10 G11 G12 uG ++ ([] : va_W)))) (hS : va_S A s.heap H locs) (ls : Array Slot) (hl : lv_has ls 13 [(0, .ref n0), (1, .ref g0), (2, .int l444_2)]) (hok : p_L_act_J444 uH uC uT uI uM uG l444_2 = some z), W p l e { frames := 5, cells := 122, slots := 8235, locals := 114 } s m args below meth c H locs 0 0 (MQ below (va_Qi (fun (r : Int32) (_ : (Nat × Nat × Nat × Nat × Nat × Nat × (Nat → Nat) × (Nat → Nat) × (Nat → Nat) × (Nat → Nat))) => r = z.1) (fun a9 t => va_P (dC, dI) vwCl ((wN cI cZ n0 h0 h3 h4 h5 h6 c0 c8 c9 c10 c11 c12 c13 t0 t8 t9 t10 t11 t12 t13 i0 i1 i2 i3 i4 m0 m1 m2 z.2.1 z.2.2.1 uT z.2.2.2.1 z.2.2.2.2.1) ++ wX5 cI cZ cJ g0 a9.1 a9.2.1 a9.2.2.1 a9.2.2.2.1 a9.2.2.2.2.1 a9.2.2.2.2.2.1 a9.2.2.2.2.2.2.1 a9.2.2.2.2.2.2.2.1 a9.2.2.2.2.2.2.2.2.1 a9.2.2.2.2.2.2.2.2.2 z.2.2.2.2.2) t.heap ∧ va_D A ((wN cI cZ n0 h0 h3 h4 h5 h6 c0 c8 c9 c10 c11 c12 c13 t0 t8 t9 t10 t11 t12 t13 i0 i1 i2 i3 i4 m0 m1 m2 z.2.1 z.2.2.1 uT z.2.2.2.1 z.2.2.2.2.1) ++ wX5 cI cZ cJ g0 a9.1 a9.2.1 a9.2.2.1 a9.2.2.2.1 a9.2.2.2.2.1 a9.2.2.2.2.2.1 a9.2.2.2.2.2.2.1 a9.2.2.2.2.2.2.2.1 a9.2.2.2.2.2.2.2.2.1 a9.2.2.2.2.2.2.2.2.2 z.2.2.2.2.2)) A) args s 122 8235 A) (F0 m 444 ls []) := by
    intro g7 g8 g9 g10 g11 g12 G9 G10 G11 G12 uH uC uI uM uG l444_2 H locs hP hD hS ls hl hok
    unfold p_L_act_J444 at hok
    refine lv_iload_n hx hb dL_act_444 rfl (lv_at hl 2 rfl) ?_
    refine lv_iconst (v := (3 : Int32)) hx hb dL_act_445 (by decide) ?_
    obtain ⟨v30, hc30, hok⟩ := bd_some hok
    refine cRSi [.int l444_2, .int (3 : Int32)] S hK2 va_Pnil (c_L_below l dC dI cI cZ l444_2 (3 : Int32) hc30) (lw_S qm_L_15 qt_L_below qn_L qc_L_below) hd_L_below ⟨rfl, rfl⟩ ⟨Nat.le_of_ble_eq_true rfl, Nat.le_of_ble_eq_true rfl⟩ ⟨Nat.le_of_ble_eq_true rfl, Nat.le_of_ble_eq_true rfl⟩ rfl hl.1 (Nat.le_of_ble_eq_true rfl) rfl dL_act_446 ?_
    refine lv_if_le (tgt := 454) hx hb dL_act_449 (by decide) (fun hc => ?_) (fun hc => ?_)
    · have hok := ip hok hc
      refine lv_aload_n hx hb dL_act_454 rfl (lv_at hl 1 rfl) ?_
      refine va_get (D := (dC, dI)) (ci := 5) (v := .int uG.2.2.2.1) (C := RX5) (T := TX5) (N := 14) hx hb hts inX5 hown hK hP 28 rfl rfl 3 (by decide) (hts _ qf_L_65) (fun _ h9 => h9) rfl dL_act_455 ?_
      refine lv_istore (lv' := [(10, .int uG.2.2.2.1), (0, .ref n0), (1, .ref g0), (2, .int l444_2)]) hx hb dL_act_458 hl (by decide) rfl (fun ls hl => ?_)
      refine lv_aload_n hx hb dL_act_460 rfl (lv_at hl 2 rfl) ?_
      refine lv_iconst (v := (0 : Int32)) hx hb dL_act_461 (by decide) ?_
      refine va_put (D := (dC, dI)) (ci := 5) (v := .int (0 : Int32)) (ty := .int) (C := RX5) (T := TX5) (N := 14) hx hb hts inX5 tyX5 tyX5_ok nmX5 hown hK hP hD hS 28 rfl rfl 3 (by decide) (hts _ qf_L_65) (fun _ h9 => h9) rfl (tyX5_ok 3 (by decide)) rfl rfl (Nat.le_of_ble_eq_true rfl) dL_act_462 (fun H locs hP hD hS => ?_)
      have hP : va_P (dC, dI) vwCl ((wN cI cZ n0 h0 h3 h4 h5 h6 c0 c8 c9 c10 c11 c12 c13 t0 t8 t9 t10 t11 t12 t13 i0 i1 i2 i3 i4 m0 m1 m2 uH uC uT uI uM) ++ (wX5 cI cZ cJ g0 g7 g8 g9 g10 g11 g12 G9 G10 G11 G12 (uG.1, uG.2.1, uG.2.2.1, (0 : Int32), uG.2.2.2.2) ++ ([] : va_W))) H := hP
      have hD : va_D A ((wN cI cZ n0 h0 h3 h4 h5 h6 c0 c8 c9 c10 c11 c12 c13 t0 t8 t9 t10 t11 t12 t13 i0 i1 i2 i3 i4 m0 m1 m2 uH uC uT uI uM) ++ (wX5 cI cZ cJ g0 g7 g8 g9 g10 g11 g12 G9 G10 G11 G12 (uG.1, uG.2.1, uG.2.2.1, (0 : Int32), uG.2.2.2.2) ++ ([] : va_W))) := hD
      refine lv_aload_n hx hb dL_act_465 rfl (lv_at hl 2 rfl) ?_
      refine lv_iconst (v := (0 : Int32)) hx hb dL_act_466 (by decide) ?_
      refine va_put (D := (dC, dI)) (ci := 5) (v := .int (0 : Int32)) (ty := .int) (C := RX5) (T := TX5) (N := 14) hx hb hts inX5 tyX5 tyX5_ok nmX5 hown hK hP hD hS 28 rfl rfl 4 (by decide) (hts _ qf_L_68) (fun _ h9 => h9) rfl (tyX5_ok 4 (by decide)) rfl rfl (Nat.le_of_ble_eq_true rfl) dL_act_467 (fun H locs hP hD hS => ?_)
      have hP : va_P (dC, dI) vwCl ((wN cI cZ n0 h0 h3 h4 h5 h6 c0 c8 c9 c10 c11 c12 c13 t0 t8 t9 t10 t11 t12 t13 i0 i1 i2 i3 i4 m0 m1 m2 uH uC uT uI uM) ++ (wX5 cI cZ cJ g0 g7 g8 g9 g10 g11 g12 G9 G10 G11 G12 (uG.1, uG.2.1, uG.2.2.1, (0 : Int32), (0 : Int32), uG.2.2.2.2.2) ++ ([] : va_W))) H := hP
      have hD : va_D A ((wN cI cZ n0 h0 h3 h4 h5 h6 c0 c8 c9 c10 c11 c12 c13 t0 t8 t9 t10 t11 t12 t13 i0 i1 i2 i3 i4 m0 m1 m2 uH uC uT uI uM) ++ (wX5 cI cZ cJ g0 g7 g8 g9 g10 g11 g12 G9 G10 G11 G12 (uG.1, uG.2.1, uG.2.2.1, (0 : Int32), (0 : Int32), uG.2.2.2.2.2) ++ ([] : va_W))) := hD
      refine lv_aload_n hx hb dL_act_470 rfl (lv_at hl 1 rfl) ?_
      obtain ⟨v31, hc31, hok⟩ := bd_some hok
      refine cUVi (ci := 4) (q0 := 0) [] S hK2 (va_Pmid (wa := []) hP) (va_Dmid (wa := []) hD) hS hA (c_X4_repair l dC dI cI cZ n0 h0 h3 h4 h5 h6 c0 c8 c9 c10 c11 c12 c13 t0 t8 t9 t10 t11 t12 t13 i0 i1 i2 i3 i4 m0 m1 m2 _ uH uC uT uI uM hc31) (lw_V qm_L_71 qi_X4_repair qs_X4_repair qn_X4 qc_X4_repair) hd_X4_repair ⟨rfl, rfl⟩ ⟨Nat.le_of_ble_eq_true rfl, Nat.le_of_ble_eq_true rfl⟩ ⟨Nat.le_of_ble_eq_true rfl, Nat.le_of_ble_eq_true rfl⟩ rfl rfl rfl hl.1 (Nat.le_of_ble_eq_true rfl) rfl dL_act_471 (fun H1 hk9 h9 => fr_joinM (wa := []) hP hD K_N hk9 h9) (va_Dmids (wa := []) K_N hD) (fun H locs hP hD hS => ?_)
      have hP : va_P (dC, dI) vwCl ((wN cI cZ n0 h0 h3 h4 h5 h6 c0 c8 c9 c10 c11 c12 c13 t0 t8 t9 t10 t11 t12 t13 i0 i1 i2 i3 i4 m0 m1 m2 uH v31.2 uT uI uM) ++ (wX5 cI cZ cJ g0 g7 g8 g9 g10 g11 g12 G9 G10 G11 G12 (uG.1, uG.2.1, uG.2.2.1, (0 : Int32), (0 : Int32), uG.2.2.2.2.2) ++ ([] : va_W))) H := hP
      have hD : va_D A ((wN cI cZ n0 h0 h3 h4 h5 h6 c0 c8 c9 c10 c11 c12 c13 t0 t8 t9 t10 t11 t12 t13 i0 i1 i2 i3 i4 m0 m1 m2 uH v31.2 uT uI uM) ++ (wX5 cI cZ cJ g0 g7 g8 g9 g10 g11 g12 G9 G10 G11 G12 (uG.1, uG.2.1, uG.2.2.1, (0 : Int32), (0 : Int32), uG.2.2.2.2.2) ++ ([] : va_W))) := hD
      refine lv_iload hx hb dL_act_474 (lv_at hl 0 rfl) ?_
      refine lv_icmp_ne (tgt := 483) hx hb dL_act_476 (by decide) (fun hc => ?_) (fun hc => ?_)
      · have hok := iq hok hc
        refine lv_iconst (v := (0 : Int32)) hx hb dL_act_483 (by decide) ?_
        have hok := Option.some.inj hok
        subst hok
        exact eAz S hr hlk (by decide) rfl (g7, g8, g9, g10, g11, g12, G9, G10, G11, G12) (nx_P hP) (nx_D hD) hS (Nat.le_of_ble_eq_true rfl) (Nat.le_of_ble_eq_true rfl) dL_act_484
      · have hok := ip hok hc
        refine lv_iconst (v := (1 : Int32)) hx hb dL_act_479 (by decide) ?_
        refine lv_goto (tgt := 484) hx hb dL_act_480 (by decide) ?_
        have hok := Option.some.inj hok
        subst hok
        exact eAz S hr hlk (by decide) rfl (g7, g8, g9, g10, g11, g12, G9, G10, G11, G12) (nx_P hP) (nx_D hD) hS (Nat.le_of_ble_eq_true rfl) (Nat.le_of_ble_eq_true rfl) dL_act_484
    · have hok := iq hok hc
      refine lv_iconst (v := (1 : Int32)) hx hb dL_act_452 (by decide) ?_
      have hok := Option.some.inj hok
      subst hok
      exact eAz S hr hlk (by decide) rfl (g7, g8, g9, g10, g11, g12, G9, G10, G11, G12) (nx_P hP) (nx_D hD) hS (Nat.le_of_ble_eq_true rfl) (Nat.le_of_ble_eq_true rfl) dL_act_453
  have J359 : ∀ (g7 : Nat) (g8 : Nat) (g9 : Nat) (g10 : Nat) (g11 : Nat) (g12 : Nat) (G9 : (Nat → Nat)) (G10 : (Nat → Nat)) (G11 : (Nat → Nat)) (G12 : (Nat → Nat)) (uH : tX1) (uC : tX0) (uI : tX2) (uM : tX3) (uG : tX5) (l359_2 : Int32) (H : Heap) (locs : List Loc) (hP : va_P (dC, dI) vwCl ((wN cI cZ n0 h0 h3 h4 h5 h6 c0 c8 c9 c10 c11 c12 c13 t0 t8 t9 t10 t11 t12 t13 i0 i1 i2 i3 i4 m0 m1 m2 uH uC uT uI uM) ++ (wX5 cI cZ cJ g0 g7 g8 g9 g10 g11 g12 G9 G10 G11 G12 uG ++ ([] : va_W))) H) (hD : va_D A ((wN cI cZ n0 h0 h3 h4 h5 h6 c0 c8 c9 c10 c11 c12 c13 t0 t8 t9 t10 t11 t12 t13 i0 i1 i2 i3 i4 m0 m1 m2 uH uC uT uI uM) ++ (wX5 cI cZ cJ g0 g7 g8 g9 g10 g11 g12 G9 G10 G11 G12 uG ++ ([] : va_W)))) (hS : va_S A s.heap H locs) (ls : Array Slot) (hl : lv_has ls 13 [(0, .ref n0), (1, .ref g0), (2, .int l359_2)]) (hok : p_L_act_J359 uH uC uT uI uM uG l359_2 = some z), W p l e { frames := 5, cells := 122, slots := 8235, locals := 114 } s m args below meth c H locs 0 0 (MQ below (va_Qi (fun (r : Int32) (_ : (Nat × Nat × Nat × Nat × Nat × Nat × (Nat → Nat) × (Nat → Nat) × (Nat → Nat) × (Nat → Nat))) => r = z.1) (fun a9 t => va_P (dC, dI) vwCl ((wN cI cZ n0 h0 h3 h4 h5 h6 c0 c8 c9 c10 c11 c12 c13 t0 t8 t9 t10 t11 t12 t13 i0 i1 i2 i3 i4 m0 m1 m2 z.2.1 z.2.2.1 uT z.2.2.2.1 z.2.2.2.2.1) ++ wX5 cI cZ cJ g0 a9.1 a9.2.1 a9.2.2.1 a9.2.2.2.1 a9.2.2.2.2.1 a9.2.2.2.2.2.1 a9.2.2.2.2.2.2.1 a9.2.2.2.2.2.2.2.1 a9.2.2.2.2.2.2.2.2.1 a9.2.2.2.2.2.2.2.2.2 z.2.2.2.2.2) t.heap ∧ va_D A ((wN cI cZ n0 h0 h3 h4 h5 h6 c0 c8 c9 c10 c11 c12 c13 t0 t8 t9 t10 t11 t12 t13 i0 i1 i2 i3 i4 m0 m1 m2 z.2.1 z.2.2.1 uT z.2.2.2.1 z.2.2.2.2.1) ++ wX5 cI cZ cJ g0 a9.1 a9.2.1 a9.2.2.1 a9.2.2.2.1 a9.2.2.2.2.1 a9.2.2.2.2.2.1 a9.2.2.2.2.2.2.1 a9.2.2.2.2.2.2.2.1 a9.2.2.2.2.2.2.2.2.1 a9.2.2.2.2.2.2.2.2.2 z.2.2.2.2.2)) A) args s 122 8235 A) (F0 m 359 ls []) := by
    intro g7 g8 g9 g10 g11 g12 G9 G10 G11 G12 uH uC uI uM uG l359_2 H locs hP hD hS ls hl hok
    unfold p_L_act_J359 at hok
    refine lv_aload_n hx hb dL_act_359 rfl (lv_at hl 1 rfl) ?_
    refine va_get (D := (dC, dI)) (ci := 5) (v := .ref g11) (C := RX5) (T := TX5) (N := 14) hx hb hts inX5 hown hK hP 28 rfl rfl 11 (by decide) (hts _ qf_L_59) (fun _ h9 => h9) rfl dL_act_360 ?_
    refine va_alen (v := (nI uG.2.2.2.2.2.2.2.2.2.2.2.1.1)) hx hb hK hP 33 2 rfl rfl rfl dL_act_363 ?_
    refine lv_iconst (v := (4 : Int32)) hx hb dL_act_364 (by decide) ?_
    refine lv_icmp_ne (tgt := 370) hx hb dL_act_365 (by decide) (fun hc => ?_) (fun hc => ?_)
    · have hok := iq hok hc
      refine lv_iload_n hx hb dL_act_370 rfl (lv_at hl 2 rfl) ?_
      refine lv_bipush (v := (8 : Int32)) hx hb dL_act_371 (by decide) ?_
      obtain ⟨v23, hc23, hok⟩ := bd_some hok
      refine cRSi [.int l359_2, .int (8 : Int32)] S hK2 va_Pnil (c_L_below l dC dI cI cZ l359_2 (8 : Int32) hc23) (lw_S qm_L_15 qt_L_below qn_L qc_L_below) hd_L_below ⟨rfl, rfl⟩ ⟨Nat.le_of_ble_eq_true rfl, Nat.le_of_ble_eq_true rfl⟩ ⟨Nat.le_of_ble_eq_true rfl, Nat.le_of_ble_eq_true rfl⟩ rfl hl.1 (Nat.le_of_ble_eq_true rfl) rfl dL_act_373 ?_
      refine lv_istore (lv' := [(8, .int v23), (0, .ref n0), (1, .ref g0), (2, .int l359_2)]) hx hb dL_act_376 hl (by decide) rfl (fun ls hl => ?_)
      refine lv_iload hx hb dL_act_378 (lv_at hl 0 rfl) ?_
      refine lv_iconst (v := (1 : Int32)) hx hb dL_act_380 (by decide) ?_
      refine lv_iadd hx hb dL_act_381 ?_
      refine lv_iload_n hx hb dL_act_382 rfl (lv_at hl 3 rfl) ?_
      refine lv_iconst (v := (3 : Int32)) hx hb dL_act_383 (by decide) ?_
      refine lv_ishr hx hb dL_act_384 ?_
      refine lv_bipush (v := (7 : Int32)) hx hb dL_act_385 (by decide) ?_
      obtain ⟨v24, hc24, hok⟩ := bd_some hok
      refine cRSi [.int (l359_2 >>> ((3 : Int32) &&& 31)), .int (7 : Int32)] S hK2 va_Pnil (c_L_below l dC dI cI cZ (l359_2 >>> ((3 : Int32) &&& 31)) (7 : Int32) hc24) (lw_S qm_L_15 qt_L_below qn_L qc_L_below) hd_L_below ⟨rfl, rfl⟩ ⟨Nat.le_of_ble_eq_true rfl, Nat.le_of_ble_eq_true rfl⟩ ⟨Nat.le_of_ble_eq_true rfl, Nat.le_of_ble_eq_true rfl⟩ rfl hl.1 (Nat.le_of_ble_eq_true rfl) rfl dL_act_387 ?_
      refine lv_iadd hx hb dL_act_390 ?_
      refine lv_bipush (v := (8 : Int32)) hx hb dL_act_391 (by decide) ?_
      refine lv_irem hx hb dL_act_393 (by decide) ?_
      refine lv_istore (lv' := [(9, .int (((v23 + (1 : Int32)) + v24) - ((v23 + (1 : Int32)) + v24) / (8 : Int32) * (8 : Int32))), (8, .int v23), (0, .ref n0), (1, .ref g0), (2, .int l359_2)]) hx hb dL_act_394 hl (by decide) rfl (fun ls hl => ?_)
      refine lv_aload_n hx hb dL_act_396 rfl (lv_at hl 3 rfl) ?_
      refine lv_aload_n hx hb dL_act_397 rfl (lv_at hl 3 rfl) ?_
      refine va_get (D := (dC, dI)) (ci := 5) (v := .ref g11) (C := RX5) (T := TX5) (N := 14) hx hb hts inX5 hown hK hP 28 rfl rfl 11 (by decide) (hts _ qf_L_59) (fun _ h9 => h9) rfl dL_act_398 ?_
      refine lv_iconst (v := (2 : Int32)) hx hb dL_act_401 (by decide) ?_
      refine va_newaI (n := 2) hx hb (hts _ qy_int) hK 0 rfl hP hD hS hA (by decide) (by decide) (by decide) (Nat.le_of_ble_eq_true rfl) (Nat.le_of_ble_eq_true rfl) dL_act_402 (fun q25 H hP hD hS => ?_)
      have hP := ra_P hP
      have hD := ra_D hD
      have hP : va_P (dC, dI) vwCl ((wN cI cZ n0 h0 h3 h4 h5 h6 c0 c8 c9 c10 c11 c12 c13 t0 t8 t9 t10 t11 t12 t13 i0 i1 i2 i3 i4 m0 m1 m2 uH uC uT uI uM) ++ (wX5 cI cZ cJ g0 g7 g8 g9 g10 g11 g12 G9 G10 G11 G12 uG ++ [(q25, .inl (cI, 2, .inl (fun _ => (0 : Int32))))])) H := hP
      have hD : va_D A ((wN cI cZ n0 h0 h3 h4 h5 h6 c0 c8 c9 c10 c11 c12 c13 t0 t8 t9 t10 t11 t12 t13 i0 i1 i2 i3 i4 m0 m1 m2 uH uC uT uI uM) ++ (wX5 cI cZ cJ g0 g7 g8 g9 g10 g11 g12 G9 G10 G11 G12 uG ++ [(q25, .inl (cI, 2, .inl (fun _ => (0 : Int32))))])) := hD
      refine lv_dup hx hb dL_act_404 rfl ?_
      refine lv_iconst (v := (0 : Int32)) hx hb dL_act_405 (by decide) ?_
      refine lv_iload hx hb dL_act_406 (lv_at hl 1 rfl) ?_
      refine xs hx hb hK hP hD hS 0 0 rfl rfl (j := 0) (by decide) (vp_inK (by decide)) dL_act_408 (fun H locs hP hD hS => ?_)
      have hP : va_P (dC, dI) vwCl ((wN cI cZ n0 h0 h3 h4 h5 h6 c0 c8 c9 c10 c11 c12 c13 t0 t8 t9 t10 t11 t12 t13 i0 i1 i2 i3 i4 m0 m1 m2 uH uC uT uI uM) ++ (wX5 cI cZ cJ g0 g7 g8 g9 g10 g11 g12 G9 G10 G11 G12 uG ++ [(q25, .inl (cI, 2, .inl (upd (fun _ => (0 : Int32)) 0 v23)))])) H := hP
      have hD : va_D A ((wN cI cZ n0 h0 h3 h4 h5 h6 c0 c8 c9 c10 c11 c12 c13 t0 t8 t9 t10 t11 t12 t13 i0 i1 i2 i3 i4 m0 m1 m2 uH uC uT uI uM) ++ (wX5 cI cZ cJ g0 g7 g8 g9 g10 g11 g12 G9 G10 G11 G12 uG ++ [(q25, .inl (cI, 2, .inl (upd (fun _ => (0 : Int32)) 0 v23)))])) := hD
      refine lv_dup hx hb dL_act_409 rfl ?_
      refine lv_iconst (v := (1 : Int32)) hx hb dL_act_410 (by decide) ?_
      refine lv_iload hx hb dL_act_411 (lv_at hl 0 rfl) ?_
      refine xs hx hb hK hP hD hS 0 0 rfl rfl (j := 1) (by decide) (vp_inK (by decide)) dL_act_413 (fun H locs hP hD hS => ?_)
      have hP : va_P (dC, dI) vwCl ((wN cI cZ n0 h0 h3 h4 h5 h6 c0 c8 c9 c10 c11 c12 c13 t0 t8 t9 t10 t11 t12 t13 i0 i1 i2 i3 i4 m0 m1 m2 uH uC uT uI uM) ++ (wX5 cI cZ cJ g0 g7 g8 g9 g10 g11 g12 G9 G10 G11 G12 uG ++ [(q25, .inl (cI, 2, .inl (upd (upd (fun _ => (0 : Int32)) 0 v23) 1 (((v23 + (1 : Int32)) + v24) - ((v23 + (1 : Int32)) + v24) / (8 : Int32) * (8 : Int32)))))])) H := hP
      have hD : va_D A ((wN cI cZ n0 h0 h3 h4 h5 h6 c0 c8 c9 c10 c11 c12 c13 t0 t8 t9 t10 t11 t12 t13 i0 i1 i2 i3 i4 m0 m1 m2 uH uC uT uI uM) ++ (wX5 cI cZ cJ g0 g7 g8 g9 g10 g11 g12 G9 G10 G11 G12 uG ++ [(q25, .inl (cI, 2, .inl (upd (upd (fun _ => (0 : Int32)) 0 v23) 1 (((v23 + (1 : Int32)) + v24) - ((v23 + (1 : Int32)) + v24) / (8 : Int32) * (8 : Int32)))))])) := hD
      obtain ⟨hw27, hok⟩ := gN_some hok
      obtain ⟨ihw27, hihw27, -⟩ := xe_at (wa := (wN cI cZ n0 h0 h3 h4 h5 h6 c0 c8 c9 c10 c11 c12 c13 t0 t8 t9 t10 t11 t12 t13 i0 i1 i2 i3 i4 m0 m1 m2 uH uC uT uI uM)) (wb := wX5 cI cZ cJ g0 g7 g8 g9 g10 g11 g12 G9 G10 G11 G12 uG) (ex := [(q25, .inl (cI, 2, .inl (upd (upd (fun _ => (0 : Int32)) 0 v23) 1 (((v23 + (1 : Int32)) + v24) - ((v23 + (1 : Int32)) + v24) / (8 : Int32) * (8 : Int32)))))]) 0 rfl
      refine cWith (k := uG.2.2.2.2.2.2.2.2.2.2.2.1.1) (L := G11) S hK hO hP hD hS hA (c_X5_with l dC dI cI cZ cJ _ _ g11 q25 uG.2.2.2.2.2.2.2.2.2.2.2.1.1 2 G11 (upd (upd (fun _ => (0 : Int32)) 0 v23) 1 (((v23 + (1 : Int32)) + v24) - ((v23 + (1 : Int32)) + v24) / (8 : Int32) * (8 : Int32))) (Nat.le_of_lt_succ hw27) ⟨33, rfl⟩ (fun k9 hk9 => by obtain ⟨i9, h9⟩ := List.getElem?_of_mem (mk11 (wa := (wN cI cZ n0 h0 h3 h4 h5 h6 c0 c8 c9 c10 c11 c12 c13 t0 t8 t9 t10 t11 t12 t13 i0 i1 i2 i3 i4 m0 m1 m2 uH uC uT uI uM)) (ex := [(q25, .inl (cI, 2, .inl (upd (upd (fun _ => (0 : Int32)) 0 v23) 1 (((v23 + (1 : Int32)) + v24) - ((v23 + (1 : Int32)) + v24) / (8 : Int32) * (8 : Int32)))))]) (cI := cI) (cZ := cZ) (cJ := cJ) (g0 := g0) (g7 := g7) (g8 := g8) (g9 := g9) (g10 := g10) (g11 := g11) (g12 := g12) (G9 := G9) (G10 := G10) (G11 := G11) (G12 := G12) (u := uG) hk9); exact ⟨i9, _, _, h9⟩) ⟨ihw27, hihw27⟩) (lw_S qm_L_52 qt_X5_with qn_X5 qc_X5_with) hd_X5_with ⟨rfl, rfl⟩ ⟨Nat.le_of_ble_eq_true rfl, Nat.le_of_ble_eq_true rfl⟩ ⟨Nat.le_of_ble_eq_true rfl, Nat.le_of_ble_eq_true rfl⟩ rfl hl.1 (Nat.le_of_ble_eq_true rfl) rfl dL_act_414 (fun q28 H locs hP hD hS => ?_)
      have hP := ra_P hP
      have hD := ra_D hD
      have hP : va_P (dC, dI) vwCl ((wN cI cZ n0 h0 h3 h4 h5 h6 c0 c8 c9 c10 c11 c12 c13 t0 t8 t9 t10 t11 t12 t13 i0 i1 i2 i3 i4 m0 m1 m2 uH uC uT uI uM) ++ (wX5 cI cZ cJ g0 g7 g8 g9 g10 g11 g12 G9 G10 G11 G12 uG ++ [(q25, .inl (cI, 2, .inl (upd (upd (fun _ => (0 : Int32)) 0 v23) 1 (((v23 + (1 : Int32)) + v24) - ((v23 + (1 : Int32)) + v24) / (8 : Int32) * (8 : Int32))))), (q28, .inl (cJ, rfs (uG.2.2.2.2.2.2.2.2.2.2.2.1.1 + 1) (va_up G11 uG.2.2.2.2.2.2.2.2.2.2.2.1.1 q25)))])) H := hP
      have hD : va_D A ((wN cI cZ n0 h0 h3 h4 h5 h6 c0 c8 c9 c10 c11 c12 c13 t0 t8 t9 t10 t11 t12 t13 i0 i1 i2 i3 i4 m0 m1 m2 uH uC uT uI uM) ++ (wX5 cI cZ cJ g0 g7 g8 g9 g10 g11 g12 G9 G10 G11 G12 uG ++ [(q25, .inl (cI, 2, .inl (upd (upd (fun _ => (0 : Int32)) 0 v23) 1 (((v23 + (1 : Int32)) + v24) - ((v23 + (1 : Int32)) + v24) / (8 : Int32) * (8 : Int32))))), (q28, .inl (cJ, rfs (uG.2.2.2.2.2.2.2.2.2.2.2.1.1 + 1) (va_up G11 uG.2.2.2.2.2.2.2.2.2.2.2.1.1 q25)))])) := hD
      refine va_put (D := (dC, dI)) (ci := 5) (v := .ref q28) (ty := (.array (.array .int))) (C := RX5) (T := TX5) (N := 14) hx hb hts inX5 tyX5 tyX5_ok nmX5 hown hK hP hD hS 28 rfl rfl 11 (by decide) (hts _ qf_L_59) (fun _ h9 => h9) rfl (tyX5_ok 11 (by decide)) rfl rfl (Nat.le_of_ble_eq_true rfl) dL_act_417 (fun H locs hP hD hS => ?_)
      have hP : va_P (dC, dI) vwCl ((wN cI cZ n0 h0 h3 h4 h5 h6 c0 c8 c9 c10 c11 c12 c13 t0 t8 t9 t10 t11 t12 t13 i0 i1 i2 i3 i4 m0 m1 m2 uH uC uT uI uM) ++ (wY5 cI cZ cJ g0 g7 g8 g9 g10 q28 g12 g7 g8 g9 g10 g11 g12 G9 G10 G11 G12 uG ++ [(q25, .inl (cI, 2, .inl (upd (upd (fun _ => (0 : Int32)) 0 v23) 1 (((v23 + (1 : Int32)) + v24) - ((v23 + (1 : Int32)) + v24) / (8 : Int32) * (8 : Int32))))), (q28, .inl (cJ, rfs (uG.2.2.2.2.2.2.2.2.2.2.2.1.1 + 1) (va_up G11 uG.2.2.2.2.2.2.2.2.2.2.2.1.1 q25)))])) H := hP
      have hD : va_D A ((wN cI cZ n0 h0 h3 h4 h5 h6 c0 c8 c9 c10 c11 c12 c13 t0 t8 t9 t10 t11 t12 t13 i0 i1 i2 i3 i4 m0 m1 m2 uH uC uT uI uM) ++ (wY5 cI cZ cJ g0 g7 g8 g9 g10 q28 g12 g7 g8 g9 g10 g11 g12 G9 G10 G11 G12 uG ++ [(q25, .inl (cI, 2, .inl (upd (upd (fun _ => (0 : Int32)) 0 v23) 1 (((v23 + (1 : Int32)) + v24) - ((v23 + (1 : Int32)) + v24) / (8 : Int32) * (8 : Int32))))), (q28, .inl (cJ, rfs (uG.2.2.2.2.2.2.2.2.2.2.2.1.1 + 1) (va_up G11 uG.2.2.2.2.2.2.2.2.2.2.2.1.1 q25)))])) := hD
      obtain ⟨hP, hD⟩ := ab11 hP hD
      have hP : va_P (dC, dI) vwCl ((wN cI cZ n0 h0 h3 h4 h5 h6 c0 c8 c9 c10 c11 c12 c13 t0 t8 t9 t10 t11 t12 t13 i0 i1 i2 i3 i4 m0 m1 m2 uH uC uT uI uM) ++ (wX5 cI cZ cJ g0 g7 g8 g9 g10 q28 g12 G9 G10 (va_up G11 uG.2.2.2.2.2.2.2.2.2.2.2.1.1 q25) G12 (uG.1, uG.2.1, uG.2.2.1, uG.2.2.2.1, uG.2.2.2.2.1, uG.2.2.2.2.2.1, uG.2.2.2.2.2.2.1, uG.2.2.2.2.2.2.2.1, uG.2.2.2.2.2.2.2.2.1, uG.2.2.2.2.2.2.2.2.2.1, uG.2.2.2.2.2.2.2.2.2.2.1, (pR uG.2.2.2.2.2.2.2.2.2.2.2.1 (2, (upd (upd (fun _ => (0 : Int32)) 0 v23) 1 (((v23 + (1 : Int32)) + v24) - ((v23 + (1 : Int32)) + v24) / (8 : Int32) * (8 : Int32))))), uG.2.2.2.2.2.2.2.2.2.2.2.2) ++ ([] : va_W))) H := hP
      have hD : va_D A ((wN cI cZ n0 h0 h3 h4 h5 h6 c0 c8 c9 c10 c11 c12 c13 t0 t8 t9 t10 t11 t12 t13 i0 i1 i2 i3 i4 m0 m1 m2 uH uC uT uI uM) ++ (wX5 cI cZ cJ g0 g7 g8 g9 g10 q28 g12 G9 G10 (va_up G11 uG.2.2.2.2.2.2.2.2.2.2.2.1.1 q25) G12 (uG.1, uG.2.1, uG.2.2.1, uG.2.2.2.1, uG.2.2.2.2.1, uG.2.2.2.2.2.1, uG.2.2.2.2.2.2.1, uG.2.2.2.2.2.2.2.1, uG.2.2.2.2.2.2.2.2.1, uG.2.2.2.2.2.2.2.2.2.1, uG.2.2.2.2.2.2.2.2.2.2.1, (pR uG.2.2.2.2.2.2.2.2.2.2.2.1 (2, (upd (upd (fun _ => (0 : Int32)) 0 v23) 1 (((v23 + (1 : Int32)) + v24) - ((v23 + (1 : Int32)) + v24) / (8 : Int32) * (8 : Int32))))), uG.2.2.2.2.2.2.2.2.2.2.2.2) ++ ([] : va_W))) := hD
      refine lv_aload_n hx hb dL_act_420 rfl (lv_at hl 2 rfl) ?_
      refine lv_iload hx hb dL_act_421 (lv_at hl 1 rfl) ?_
      refine lv_iload hx hb dL_act_423 (lv_at hl 0 rfl) ?_
      obtain ⟨v29, hc29, hok⟩ := bd_some hok
      refine cUVi (ci := 4) (q0 := 0) [.int v23, .int (((v23 + (1 : Int32)) + v24) - ((v23 + (1 : Int32)) + v24) / (8 : Int32) * (8 : Int32))] S hK2 (va_Pmid (wa := []) hP) (va_Dmid (wa := []) hD) hS hA (c_X4_addMirror l dC dI cI cZ n0 h0 h3 h4 h5 h6 c0 c8 c9 c10 c11 c12 c13 t0 t8 t9 t10 t11 t12 t13 i0 i1 i2 i3 i4 m0 m1 m2 _ uH uC uT uI uM v23 (((v23 + (1 : Int32)) + v24) - ((v23 + (1 : Int32)) + v24) / (8 : Int32) * (8 : Int32)) hc29) (lw_V qm_L_62 qi_X4_addMirror qs_X4_addMirror qn_X4 qc_X4_addMirror) hd_X4_addMirror ⟨rfl, rfl⟩ ⟨Nat.le_of_ble_eq_true rfl, Nat.le_of_ble_eq_true rfl⟩ ⟨Nat.le_of_ble_eq_true rfl, Nat.le_of_ble_eq_true rfl⟩ rfl rfl rfl hl.1 (Nat.le_of_ble_eq_true rfl) rfl dL_act_425 (fun H1 hk9 h9 => fr_joinM (wa := []) hP hD K_N hk9 h9) (va_Dmids (wa := []) K_N hD) (fun H locs hP hD hS => ?_)
      have hP : va_P (dC, dI) vwCl ((wN cI cZ n0 h0 h3 h4 h5 h6 c0 c8 c9 c10 c11 c12 c13 t0 t8 t9 t10 t11 t12 t13 i0 i1 i2 i3 i4 m0 m1 m2 uH uC uT uI v29.2) ++ (wX5 cI cZ cJ g0 g7 g8 g9 g10 q28 g12 G9 G10 (va_up G11 uG.2.2.2.2.2.2.2.2.2.2.2.1.1 q25) G12 (uG.1, uG.2.1, uG.2.2.1, uG.2.2.2.1, uG.2.2.2.2.1, uG.2.2.2.2.2.1, uG.2.2.2.2.2.2.1, uG.2.2.2.2.2.2.2.1, uG.2.2.2.2.2.2.2.2.1, uG.2.2.2.2.2.2.2.2.2.1, uG.2.2.2.2.2.2.2.2.2.2.1, (pR uG.2.2.2.2.2.2.2.2.2.2.2.1 (2, (upd (upd (fun _ => (0 : Int32)) 0 v23) 1 (((v23 + (1 : Int32)) + v24) - ((v23 + (1 : Int32)) + v24) / (8 : Int32) * (8 : Int32))))), uG.2.2.2.2.2.2.2.2.2.2.2.2) ++ ([] : va_W))) H := hP
      have hD : va_D A ((wN cI cZ n0 h0 h3 h4 h5 h6 c0 c8 c9 c10 c11 c12 c13 t0 t8 t9 t10 t11 t12 t13 i0 i1 i2 i3 i4 m0 m1 m2 uH uC uT uI v29.2) ++ (wX5 cI cZ cJ g0 g7 g8 g9 g10 q28 g12 G9 G10 (va_up G11 uG.2.2.2.2.2.2.2.2.2.2.2.1.1 q25) G12 (uG.1, uG.2.1, uG.2.2.1, uG.2.2.2.1, uG.2.2.2.2.1, uG.2.2.2.2.2.1, uG.2.2.2.2.2.2.1, uG.2.2.2.2.2.2.2.1, uG.2.2.2.2.2.2.2.2.1, uG.2.2.2.2.2.2.2.2.2.1, uG.2.2.2.2.2.2.2.2.2.2.1, (pR uG.2.2.2.2.2.2.2.2.2.2.2.1 (2, (upd (upd (fun _ => (0 : Int32)) 0 v23) 1 (((v23 + (1 : Int32)) + v24) - ((v23 + (1 : Int32)) + v24) / (8 : Int32) * (8 : Int32))))), uG.2.2.2.2.2.2.2.2.2.2.2.2) ++ ([] : va_W))) := hD
      refine lv_aload_n hx hb dL_act_428 rfl (lv_at hl 3 rfl) ?_
      refine va_get (D := (dC, dI)) (ci := 5) (v := .ref q28) (C := RX5) (T := TX5) (N := 14) hx hb hts inX5 hown hK hP 28 rfl rfl 11 (by decide) (hts _ qf_L_59) (fun _ h9 => h9) rfl dL_act_429 ?_
      refine va_alen (v := (nI (pR uG.2.2.2.2.2.2.2.2.2.2.2.1 (2, (upd (upd (fun _ => (0 : Int32)) 0 v23) 1 (((v23 + (1 : Int32)) + v24) - ((v23 + (1 : Int32)) + v24) / (8 : Int32) * (8 : Int32))))).1)) hx hb hK hP 33 2 rfl rfl rfl dL_act_432 ?_
      refine lv_iconst (v := (1 : Int32)) hx hb dL_act_433 (by decide) ?_
      refine lv_isub hx hb dL_act_434 ?_
      refine lv_icmp_ne (tgt := 442) hx hb dL_act_435 (by decide) (fun hc => ?_) (fun hc => ?_)
      · have hok := iq hok hc
        refine lv_iconst (v := (0 : Int32)) hx hb dL_act_442 (by decide) ?_
        have hok := Option.some.inj hok
        subst hok
        exact eAz S hr hlk (by decide) rfl (g7, g8, g9, g10, q28, g12, G9, G10, (va_up G11 uG.2.2.2.2.2.2.2.2.2.2.2.1.1 q25), G12) (nx_P hP) (nx_D hD) hS (Nat.le_of_ble_eq_true rfl) (Nat.le_of_ble_eq_true rfl) dL_act_443
      · have hok := ip hok hc
        refine lv_iconst (v := (1 : Int32)) hx hb dL_act_438 (by decide) ?_
        refine lv_goto (tgt := 443) hx hb dL_act_439 (by decide) ?_
        have hok := Option.some.inj hok
        subst hok
        exact eAz S hr hlk (by decide) rfl (g7, g8, g9, g10, q28, g12, G9, G10, (va_up G11 uG.2.2.2.2.2.2.2.2.2.2.2.1.1 q25), G12) (nx_P hP) (nx_D hD) hS (Nat.le_of_ble_eq_true rfl) (Nat.le_of_ble_eq_true rfl) dL_act_443
    · have hok := ip hok hc
      refine lv_iconst (v := (1 : Int32)) hx hb dL_act_368 (by decide) ?_
      have hok := Option.some.inj hok
      subst hok
      exact eAz S hr hlk (by decide) rfl (g7, g8, g9, g10, g11, g12, G9, G10, G11, G12) (nx_P hP) (nx_D hD) hS (Nat.le_of_ble_eq_true rfl) (Nat.le_of_ble_eq_true rfl) dL_act_369
  have J275 : ∀ (g7 : Nat) (g8 : Nat) (g9 : Nat) (g10 : Nat) (g11 : Nat) (g12 : Nat) (G9 : (Nat → Nat)) (G10 : (Nat → Nat)) (G11 : (Nat → Nat)) (G12 : (Nat → Nat)) (uH : tX1) (uC : tX0) (uI : tX2) (uM : tX3) (uG : tX5) (l275_2 : Int32) (H : Heap) (locs : List Loc) (hP : va_P (dC, dI) vwCl ((wN cI cZ n0 h0 h3 h4 h5 h6 c0 c8 c9 c10 c11 c12 c13 t0 t8 t9 t10 t11 t12 t13 i0 i1 i2 i3 i4 m0 m1 m2 uH uC uT uI uM) ++ (wX5 cI cZ cJ g0 g7 g8 g9 g10 g11 g12 G9 G10 G11 G12 uG ++ ([] : va_W))) H) (hD : va_D A ((wN cI cZ n0 h0 h3 h4 h5 h6 c0 c8 c9 c10 c11 c12 c13 t0 t8 t9 t10 t11 t12 t13 i0 i1 i2 i3 i4 m0 m1 m2 uH uC uT uI uM) ++ (wX5 cI cZ cJ g0 g7 g8 g9 g10 g11 g12 G9 G10 G11 G12 uG ++ ([] : va_W)))) (hS : va_S A s.heap H locs) (ls : Array Slot) (hl : lv_has ls 13 [(0, .ref n0), (1, .ref g0), (2, .int l275_2)]) (hok : p_L_act_J275 uH uC uT uI uM uG l275_2 = some z), W p l e { frames := 5, cells := 122, slots := 8235, locals := 114 } s m args below meth c H locs 0 0 (MQ below (va_Qi (fun (r : Int32) (_ : (Nat × Nat × Nat × Nat × Nat × Nat × (Nat → Nat) × (Nat → Nat) × (Nat → Nat) × (Nat → Nat))) => r = z.1) (fun a9 t => va_P (dC, dI) vwCl ((wN cI cZ n0 h0 h3 h4 h5 h6 c0 c8 c9 c10 c11 c12 c13 t0 t8 t9 t10 t11 t12 t13 i0 i1 i2 i3 i4 m0 m1 m2 z.2.1 z.2.2.1 uT z.2.2.2.1 z.2.2.2.2.1) ++ wX5 cI cZ cJ g0 a9.1 a9.2.1 a9.2.2.1 a9.2.2.2.1 a9.2.2.2.2.1 a9.2.2.2.2.2.1 a9.2.2.2.2.2.2.1 a9.2.2.2.2.2.2.2.1 a9.2.2.2.2.2.2.2.2.1 a9.2.2.2.2.2.2.2.2.2 z.2.2.2.2.2) t.heap ∧ va_D A ((wN cI cZ n0 h0 h3 h4 h5 h6 c0 c8 c9 c10 c11 c12 c13 t0 t8 t9 t10 t11 t12 t13 i0 i1 i2 i3 i4 m0 m1 m2 z.2.1 z.2.2.1 uT z.2.2.2.1 z.2.2.2.2.1) ++ wX5 cI cZ cJ g0 a9.1 a9.2.1 a9.2.2.1 a9.2.2.2.1 a9.2.2.2.2.1 a9.2.2.2.2.2.1 a9.2.2.2.2.2.2.1 a9.2.2.2.2.2.2.2.1 a9.2.2.2.2.2.2.2.2.1 a9.2.2.2.2.2.2.2.2.2 z.2.2.2.2.2)) A) args s 122 8235 A) (F0 m 275 ls []) := by
    intro g7 g8 g9 g10 g11 g12 G9 G10 G11 G12 uH uC uI uM uG l275_2 H locs hP hD hS ls hl hok
    unfold p_L_act_J275 at hok
    refine lv_aload_n hx hb dL_act_275 rfl (lv_at hl 1 rfl) ?_
    refine va_get (D := (dC, dI)) (ci := 5) (v := .ref g10) (C := RX5) (T := TX5) (N := 14) hx hb hts inX5 hown hK hP 28 rfl rfl 10 (by decide) (hts _ qf_L_49) (fun _ h9 => h9) rfl dL_act_276 ?_
    refine va_alen (v := (nI uG.2.2.2.2.2.2.2.2.2.2.1.1)) hx hb hK hP 32 2 rfl rfl rfl dL_act_279 ?_
    refine lv_bipush (v := (8 : Int32)) hx hb dL_act_280 (by decide) ?_
    refine lv_icmp_ne (tgt := 287) hx hb dL_act_282 (by decide) (fun hc => ?_) (fun hc => ?_)
    · have hok := iq hok hc
      refine lv_iconst (v := (3 : Int32)) hx hb dL_act_287 (by decide) ?_
      refine va_newaI (n := 3) hx hb (hts _ qy_int) hK 0 rfl hP hD hS hA (by decide) (by decide) (by decide) (Nat.le_of_ble_eq_true rfl) (Nat.le_of_ble_eq_true rfl) dL_act_288 (fun q14 H hP hD hS => ?_)
      have hP := ra_P hP
      have hD := ra_D hD
      have hP : va_P (dC, dI) vwCl ((wN cI cZ n0 h0 h3 h4 h5 h6 c0 c8 c9 c10 c11 c12 c13 t0 t8 t9 t10 t11 t12 t13 i0 i1 i2 i3 i4 m0 m1 m2 uH uC uT uI uM) ++ (wX5 cI cZ cJ g0 g7 g8 g9 g10 g11 g12 G9 G10 G11 G12 uG ++ [(q14, .inl (cI, 3, .inl (fun _ => (0 : Int32))))])) H := hP
      have hD : va_D A ((wN cI cZ n0 h0 h3 h4 h5 h6 c0 c8 c9 c10 c11 c12 c13 t0 t8 t9 t10 t11 t12 t13 i0 i1 i2 i3 i4 m0 m1 m2 uH uC uT uI uM) ++ (wX5 cI cZ cJ g0 g7 g8 g9 g10 g11 g12 G9 G10 G11 G12 uG ++ [(q14, .inl (cI, 3, .inl (fun _ => (0 : Int32))))])) := hD
      refine lv_dup hx hb dL_act_290 rfl ?_
      refine lv_iconst (v := (0 : Int32)) hx hb dL_act_291 (by decide) ?_
      refine lv_iload_n hx hb dL_act_292 rfl (lv_at hl 2 rfl) ?_
      refine lv_bipush (v := (8 : Int32)) hx hb dL_act_293 (by decide) ?_
      obtain ⟨v15, hc15, hok⟩ := bd_some hok
      refine cRSi [.int l275_2, .int (8 : Int32)] S hK2 va_Pnil (c_L_below l dC dI cI cZ l275_2 (8 : Int32) hc15) (lw_S qm_L_15 qt_L_below qn_L qc_L_below) hd_L_below ⟨rfl, rfl⟩ ⟨Nat.le_of_ble_eq_true rfl, Nat.le_of_ble_eq_true rfl⟩ ⟨Nat.le_of_ble_eq_true rfl, Nat.le_of_ble_eq_true rfl⟩ rfl hl.1 (Nat.le_of_ble_eq_true rfl) rfl dL_act_295 ?_
      refine xs hx hb hK hP hD hS 0 0 rfl rfl (j := 0) (by decide) (vp_inK (by decide)) dL_act_298 (fun H locs hP hD hS => ?_)
      have hP : va_P (dC, dI) vwCl ((wN cI cZ n0 h0 h3 h4 h5 h6 c0 c8 c9 c10 c11 c12 c13 t0 t8 t9 t10 t11 t12 t13 i0 i1 i2 i3 i4 m0 m1 m2 uH uC uT uI uM) ++ (wX5 cI cZ cJ g0 g7 g8 g9 g10 g11 g12 G9 G10 G11 G12 uG ++ [(q14, .inl (cI, 3, .inl (upd (fun _ => (0 : Int32)) 0 v15)))])) H := hP
      have hD : va_D A ((wN cI cZ n0 h0 h3 h4 h5 h6 c0 c8 c9 c10 c11 c12 c13 t0 t8 t9 t10 t11 t12 t13 i0 i1 i2 i3 i4 m0 m1 m2 uH uC uT uI uM) ++ (wX5 cI cZ cJ g0 g7 g8 g9 g10 g11 g12 G9 G10 G11 G12 uG ++ [(q14, .inl (cI, 3, .inl (upd (fun _ => (0 : Int32)) 0 v15)))])) := hD
      refine lv_dup hx hb dL_act_299 rfl ?_
      refine lv_iconst (v := (1 : Int32)) hx hb dL_act_300 (by decide) ?_
      refine lv_iconst (v := (1 : Int32)) hx hb dL_act_301 (by decide) ?_
      refine lv_iload_n hx hb dL_act_302 rfl (lv_at hl 2 rfl) ?_
      refine lv_iconst (v := (3 : Int32)) hx hb dL_act_303 (by decide) ?_
      refine lv_ishr hx hb dL_act_304 ?_
      refine lv_bipush (v := (20 : Int32)) hx hb dL_act_305 (by decide) ?_
      obtain ⟨v16, hc16, hok⟩ := bd_some hok
      refine cRSi [.int (l275_2 >>> ((3 : Int32) &&& 31)), .int (20 : Int32)] S hK2 va_Pnil (c_L_below l dC dI cI cZ (l275_2 >>> ((3 : Int32) &&& 31)) (20 : Int32) hc16) (lw_S qm_L_15 qt_L_below qn_L qc_L_below) hd_L_below ⟨rfl, rfl⟩ ⟨Nat.le_of_ble_eq_true rfl, Nat.le_of_ble_eq_true rfl⟩ ⟨Nat.le_of_ble_eq_true rfl, Nat.le_of_ble_eq_true rfl⟩ rfl hl.1 (Nat.le_of_ble_eq_true rfl) rfl dL_act_307 ?_
      refine lv_iadd hx hb dL_act_310 ?_
      refine xs hx hb hK hP hD hS 0 0 rfl rfl (j := 1) (by decide) (vp_inK (by decide)) dL_act_311 (fun H locs hP hD hS => ?_)
      have hP : va_P (dC, dI) vwCl ((wN cI cZ n0 h0 h3 h4 h5 h6 c0 c8 c9 c10 c11 c12 c13 t0 t8 t9 t10 t11 t12 t13 i0 i1 i2 i3 i4 m0 m1 m2 uH uC uT uI uM) ++ (wX5 cI cZ cJ g0 g7 g8 g9 g10 g11 g12 G9 G10 G11 G12 uG ++ [(q14, .inl (cI, 3, .inl (upd (upd (fun _ => (0 : Int32)) 0 v15) 1 ((1 : Int32) + v16))))])) H := hP
      have hD : va_D A ((wN cI cZ n0 h0 h3 h4 h5 h6 c0 c8 c9 c10 c11 c12 c13 t0 t8 t9 t10 t11 t12 t13 i0 i1 i2 i3 i4 m0 m1 m2 uH uC uT uI uM) ++ (wX5 cI cZ cJ g0 g7 g8 g9 g10 g11 g12 G9 G10 G11 G12 uG ++ [(q14, .inl (cI, 3, .inl (upd (upd (fun _ => (0 : Int32)) 0 v15) 1 ((1 : Int32) + v16))))])) := hD
      refine lv_dup hx hb dL_act_312 rfl ?_
      refine lv_iconst (v := (2 : Int32)) hx hb dL_act_313 (by decide) ?_
      refine lv_iconst (v := (1 : Int32)) hx hb dL_act_314 (by decide) ?_
      refine xs hx hb hK hP hD hS 0 0 rfl rfl (j := 2) (by decide) (vp_inK (by decide)) dL_act_315 (fun H locs hP hD hS => ?_)
      have hP : va_P (dC, dI) vwCl ((wN cI cZ n0 h0 h3 h4 h5 h6 c0 c8 c9 c10 c11 c12 c13 t0 t8 t9 t10 t11 t12 t13 i0 i1 i2 i3 i4 m0 m1 m2 uH uC uT uI uM) ++ (wX5 cI cZ cJ g0 g7 g8 g9 g10 g11 g12 G9 G10 G11 G12 uG ++ [(q14, .inl (cI, 3, .inl (upd (upd (upd (fun _ => (0 : Int32)) 0 v15) 1 ((1 : Int32) + v16)) 2 (1 : Int32))))])) H := hP
      have hD : va_D A ((wN cI cZ n0 h0 h3 h4 h5 h6 c0 c8 c9 c10 c11 c12 c13 t0 t8 t9 t10 t11 t12 t13 i0 i1 i2 i3 i4 m0 m1 m2 uH uC uT uI uM) ++ (wX5 cI cZ cJ g0 g7 g8 g9 g10 g11 g12 G9 G10 G11 G12 uG ++ [(q14, .inl (cI, 3, .inl (upd (upd (upd (fun _ => (0 : Int32)) 0 v15) 1 ((1 : Int32) + v16)) 2 (1 : Int32))))])) := hD
      refine lv_astore (lv' := [(7, .ref q14), (0, .ref n0), (1, .ref g0), (2, .int l275_2)]) hx hb dL_act_316 hl (by decide) rfl (fun ls hl => ?_)
      refine lv_aload_n hx hb dL_act_318 rfl (lv_at hl 2 rfl) ?_
      refine lv_aload_n hx hb dL_act_319 rfl (lv_at hl 2 rfl) ?_
      refine va_get (D := (dC, dI)) (ci := 5) (v := .ref g10) (C := RX5) (T := TX5) (N := 14) hx hb hts inX5 hown hK hP 28 rfl rfl 10 (by decide) (hts _ qf_L_49) (fun _ h9 => h9) rfl dL_act_320 ?_
      refine lv_aload hx hb dL_act_323 (lv_at hl 0 rfl) ?_
      obtain ⟨hw18, hok⟩ := gN_some hok
      obtain ⟨ihw18, hihw18, -⟩ := xe_at (wa := (wN cI cZ n0 h0 h3 h4 h5 h6 c0 c8 c9 c10 c11 c12 c13 t0 t8 t9 t10 t11 t12 t13 i0 i1 i2 i3 i4 m0 m1 m2 uH uC uT uI uM)) (wb := wX5 cI cZ cJ g0 g7 g8 g9 g10 g11 g12 G9 G10 G11 G12 uG) (ex := [(q14, .inl (cI, 3, .inl (upd (upd (upd (fun _ => (0 : Int32)) 0 v15) 1 ((1 : Int32) + v16)) 2 (1 : Int32))))]) 0 rfl
      refine cWith (k := uG.2.2.2.2.2.2.2.2.2.2.1.1) (L := G10) S hK hO hP hD hS hA (c_X5_with l dC dI cI cZ cJ _ _ g10 q14 uG.2.2.2.2.2.2.2.2.2.2.1.1 3 G10 (upd (upd (upd (fun _ => (0 : Int32)) 0 v15) 1 ((1 : Int32) + v16)) 2 (1 : Int32)) (Nat.le_of_lt_succ hw18) ⟨32, rfl⟩ (fun k9 hk9 => by obtain ⟨i9, h9⟩ := List.getElem?_of_mem (mk10 (wa := (wN cI cZ n0 h0 h3 h4 h5 h6 c0 c8 c9 c10 c11 c12 c13 t0 t8 t9 t10 t11 t12 t13 i0 i1 i2 i3 i4 m0 m1 m2 uH uC uT uI uM)) (ex := [(q14, .inl (cI, 3, .inl (upd (upd (upd (fun _ => (0 : Int32)) 0 v15) 1 ((1 : Int32) + v16)) 2 (1 : Int32))))]) (cI := cI) (cZ := cZ) (cJ := cJ) (g0 := g0) (g7 := g7) (g8 := g8) (g9 := g9) (g10 := g10) (g11 := g11) (g12 := g12) (G9 := G9) (G10 := G10) (G11 := G11) (G12 := G12) (u := uG) hk9); exact ⟨i9, _, _, h9⟩) ⟨ihw18, hihw18⟩) (lw_S qm_L_52 qt_X5_with qn_X5 qc_X5_with) hd_X5_with ⟨rfl, rfl⟩ ⟨Nat.le_of_ble_eq_true rfl, Nat.le_of_ble_eq_true rfl⟩ ⟨Nat.le_of_ble_eq_true rfl, Nat.le_of_ble_eq_true rfl⟩ rfl hl.1 (Nat.le_of_ble_eq_true rfl) rfl dL_act_325 (fun q19 H locs hP hD hS => ?_)
      have hP := ra_P hP
      have hD := ra_D hD
      have hP : va_P (dC, dI) vwCl ((wN cI cZ n0 h0 h3 h4 h5 h6 c0 c8 c9 c10 c11 c12 c13 t0 t8 t9 t10 t11 t12 t13 i0 i1 i2 i3 i4 m0 m1 m2 uH uC uT uI uM) ++ (wX5 cI cZ cJ g0 g7 g8 g9 g10 g11 g12 G9 G10 G11 G12 uG ++ [(q14, .inl (cI, 3, .inl (upd (upd (upd (fun _ => (0 : Int32)) 0 v15) 1 ((1 : Int32) + v16)) 2 (1 : Int32)))), (q19, .inl (cJ, rfs (uG.2.2.2.2.2.2.2.2.2.2.1.1 + 1) (va_up G10 uG.2.2.2.2.2.2.2.2.2.2.1.1 q14)))])) H := hP
      have hD : va_D A ((wN cI cZ n0 h0 h3 h4 h5 h6 c0 c8 c9 c10 c11 c12 c13 t0 t8 t9 t10 t11 t12 t13 i0 i1 i2 i3 i4 m0 m1 m2 uH uC uT uI uM) ++ (wX5 cI cZ cJ g0 g7 g8 g9 g10 g11 g12 G9 G10 G11 G12 uG ++ [(q14, .inl (cI, 3, .inl (upd (upd (upd (fun _ => (0 : Int32)) 0 v15) 1 ((1 : Int32) + v16)) 2 (1 : Int32)))), (q19, .inl (cJ, rfs (uG.2.2.2.2.2.2.2.2.2.2.1.1 + 1) (va_up G10 uG.2.2.2.2.2.2.2.2.2.2.1.1 q14)))])) := hD
      refine va_put (D := (dC, dI)) (ci := 5) (v := .ref q19) (ty := (.array (.array .int))) (C := RX5) (T := TX5) (N := 14) hx hb hts inX5 tyX5 tyX5_ok nmX5 hown hK hP hD hS 28 rfl rfl 10 (by decide) (hts _ qf_L_49) (fun _ h9 => h9) rfl (tyX5_ok 10 (by decide)) rfl rfl (Nat.le_of_ble_eq_true rfl) dL_act_328 (fun H locs hP hD hS => ?_)
      have hP : va_P (dC, dI) vwCl ((wN cI cZ n0 h0 h3 h4 h5 h6 c0 c8 c9 c10 c11 c12 c13 t0 t8 t9 t10 t11 t12 t13 i0 i1 i2 i3 i4 m0 m1 m2 uH uC uT uI uM) ++ (wY5 cI cZ cJ g0 g7 g8 g9 q19 g11 g12 g7 g8 g9 g10 g11 g12 G9 G10 G11 G12 uG ++ [(q14, .inl (cI, 3, .inl (upd (upd (upd (fun _ => (0 : Int32)) 0 v15) 1 ((1 : Int32) + v16)) 2 (1 : Int32)))), (q19, .inl (cJ, rfs (uG.2.2.2.2.2.2.2.2.2.2.1.1 + 1) (va_up G10 uG.2.2.2.2.2.2.2.2.2.2.1.1 q14)))])) H := hP
      have hD : va_D A ((wN cI cZ n0 h0 h3 h4 h5 h6 c0 c8 c9 c10 c11 c12 c13 t0 t8 t9 t10 t11 t12 t13 i0 i1 i2 i3 i4 m0 m1 m2 uH uC uT uI uM) ++ (wY5 cI cZ cJ g0 g7 g8 g9 q19 g11 g12 g7 g8 g9 g10 g11 g12 G9 G10 G11 G12 uG ++ [(q14, .inl (cI, 3, .inl (upd (upd (upd (fun _ => (0 : Int32)) 0 v15) 1 ((1 : Int32) + v16)) 2 (1 : Int32)))), (q19, .inl (cJ, rfs (uG.2.2.2.2.2.2.2.2.2.2.1.1 + 1) (va_up G10 uG.2.2.2.2.2.2.2.2.2.2.1.1 q14)))])) := hD
      obtain ⟨hP, hD⟩ := ab10 hP hD
      have hP : va_P (dC, dI) vwCl ((wN cI cZ n0 h0 h3 h4 h5 h6 c0 c8 c9 c10 c11 c12 c13 t0 t8 t9 t10 t11 t12 t13 i0 i1 i2 i3 i4 m0 m1 m2 uH uC uT uI uM) ++ (wX5 cI cZ cJ g0 g7 g8 g9 q19 g11 g12 G9 (va_up G10 uG.2.2.2.2.2.2.2.2.2.2.1.1 q14) G11 G12 (uG.1, uG.2.1, uG.2.2.1, uG.2.2.2.1, uG.2.2.2.2.1, uG.2.2.2.2.2.1, uG.2.2.2.2.2.2.1, uG.2.2.2.2.2.2.2.1, uG.2.2.2.2.2.2.2.2.1, uG.2.2.2.2.2.2.2.2.2.1, (pR uG.2.2.2.2.2.2.2.2.2.2.1 (3, (upd (upd (upd (fun _ => (0 : Int32)) 0 v15) 1 ((1 : Int32) + v16)) 2 (1 : Int32)))), uG.2.2.2.2.2.2.2.2.2.2.2) ++ ([] : va_W))) H := hP
      have hD : va_D A ((wN cI cZ n0 h0 h3 h4 h5 h6 c0 c8 c9 c10 c11 c12 c13 t0 t8 t9 t10 t11 t12 t13 i0 i1 i2 i3 i4 m0 m1 m2 uH uC uT uI uM) ++ (wX5 cI cZ cJ g0 g7 g8 g9 q19 g11 g12 G9 (va_up G10 uG.2.2.2.2.2.2.2.2.2.2.1.1 q14) G11 G12 (uG.1, uG.2.1, uG.2.2.1, uG.2.2.2.1, uG.2.2.2.2.1, uG.2.2.2.2.2.1, uG.2.2.2.2.2.2.1, uG.2.2.2.2.2.2.2.1, uG.2.2.2.2.2.2.2.2.1, uG.2.2.2.2.2.2.2.2.2.1, (pR uG.2.2.2.2.2.2.2.2.2.2.1 (3, (upd (upd (upd (fun _ => (0 : Int32)) 0 v15) 1 ((1 : Int32) + v16)) 2 (1 : Int32)))), uG.2.2.2.2.2.2.2.2.2.2.2) ++ ([] : va_W))) := hD
      refine lv_aload_n hx hb dL_act_331 rfl (lv_at hl 1 rfl) ?_
      refine lv_aload hx hb dL_act_332 (lv_at hl 0 rfl) ?_
      refine lv_iconst (v := (0 : Int32)) hx hb dL_act_334 (by decide) ?_
      obtain ⟨hi20, hok⟩ := gd_some hok
      refine rl10 hx hb hK 0 rfl hP (k := uG.2.2.2.2.2.2.2.2.2.2.1.1) (j := 0) (Nat.lt_succ_self _) (by unfold va_up; rw [if_pos rfl]) (by decide) hi20 dL_act_335 ?_
      refine lv_aload hx hb dL_act_336 (lv_at hl 0 rfl) ?_
      refine lv_iconst (v := (1 : Int32)) hx hb dL_act_338 (by decide) ?_
      obtain ⟨hi21, hok⟩ := gd_some hok
      refine rl10 hx hb hK 0 rfl hP (k := uG.2.2.2.2.2.2.2.2.2.2.1.1) (j := 1) (Nat.lt_succ_self _) (by unfold va_up; rw [if_pos rfl]) (by decide) hi21 dL_act_339 ?_
      obtain ⟨v22, hc22, hok⟩ := bd_some hok
      refine cUVi (ci := 4) (q0 := 0) [.int (((pR uG.2.2.2.2.2.2.2.2.2.2.1 (3, (upd (upd (upd (fun _ => (0 : Int32)) 0 v15) 1 ((1 : Int32) + v16)) 2 (1 : Int32)))).2 uG.2.2.2.2.2.2.2.2.2.2.1.1).2 0), .int (((pR uG.2.2.2.2.2.2.2.2.2.2.1 (3, (upd (upd (upd (fun _ => (0 : Int32)) 0 v15) 1 ((1 : Int32) + v16)) 2 (1 : Int32)))).2 uG.2.2.2.2.2.2.2.2.2.2.1.1).2 1)] S hK2 (va_Pmid (wa := []) hP) (va_Dmid (wa := []) hD) hS hA (c_X4_addReader l dC dI cI cZ n0 h0 h3 h4 h5 h6 c0 c8 c9 c10 c11 c12 c13 t0 t8 t9 t10 t11 t12 t13 i0 i1 i2 i3 i4 m0 m1 m2 _ uH uC uT uI uM (((pR uG.2.2.2.2.2.2.2.2.2.2.1 (3, (upd (upd (upd (fun _ => (0 : Int32)) 0 v15) 1 ((1 : Int32) + v16)) 2 (1 : Int32)))).2 uG.2.2.2.2.2.2.2.2.2.2.1.1).2 0) (((pR uG.2.2.2.2.2.2.2.2.2.2.1 (3, (upd (upd (upd (fun _ => (0 : Int32)) 0 v15) 1 ((1 : Int32) + v16)) 2 (1 : Int32)))).2 uG.2.2.2.2.2.2.2.2.2.2.1.1).2 1) hc22) (lw_V qm_L_56 qi_X4_addReader qs_X4_addReader qn_X4 qc_X4_addReader) hd_X4_addReader ⟨rfl, rfl⟩ ⟨Nat.le_of_ble_eq_true rfl, Nat.le_of_ble_eq_true rfl⟩ ⟨Nat.le_of_ble_eq_true rfl, Nat.le_of_ble_eq_true rfl⟩ rfl rfl rfl hl.1 (Nat.le_of_ble_eq_true rfl) rfl dL_act_340 (fun H1 hk9 h9 => fr_joinM (wa := []) hP hD K_N hk9 h9) (va_Dmids (wa := []) K_N hD) (fun H locs hP hD hS => ?_)
      have hP : va_P (dC, dI) vwCl ((wN cI cZ n0 h0 h3 h4 h5 h6 c0 c8 c9 c10 c11 c12 c13 t0 t8 t9 t10 t11 t12 t13 i0 i1 i2 i3 i4 m0 m1 m2 v22.2.1 v22.2.2 uT uI uM) ++ (wX5 cI cZ cJ g0 g7 g8 g9 q19 g11 g12 G9 (va_up G10 uG.2.2.2.2.2.2.2.2.2.2.1.1 q14) G11 G12 (uG.1, uG.2.1, uG.2.2.1, uG.2.2.2.1, uG.2.2.2.2.1, uG.2.2.2.2.2.1, uG.2.2.2.2.2.2.1, uG.2.2.2.2.2.2.2.1, uG.2.2.2.2.2.2.2.2.1, uG.2.2.2.2.2.2.2.2.2.1, (pR uG.2.2.2.2.2.2.2.2.2.2.1 (3, (upd (upd (upd (fun _ => (0 : Int32)) 0 v15) 1 ((1 : Int32) + v16)) 2 (1 : Int32)))), uG.2.2.2.2.2.2.2.2.2.2.2) ++ ([] : va_W))) H := hP
      have hD : va_D A ((wN cI cZ n0 h0 h3 h4 h5 h6 c0 c8 c9 c10 c11 c12 c13 t0 t8 t9 t10 t11 t12 t13 i0 i1 i2 i3 i4 m0 m1 m2 v22.2.1 v22.2.2 uT uI uM) ++ (wX5 cI cZ cJ g0 g7 g8 g9 q19 g11 g12 G9 (va_up G10 uG.2.2.2.2.2.2.2.2.2.2.1.1 q14) G11 G12 (uG.1, uG.2.1, uG.2.2.1, uG.2.2.2.1, uG.2.2.2.2.1, uG.2.2.2.2.2.1, uG.2.2.2.2.2.2.1, uG.2.2.2.2.2.2.2.1, uG.2.2.2.2.2.2.2.2.1, uG.2.2.2.2.2.2.2.2.2.1, (pR uG.2.2.2.2.2.2.2.2.2.2.1 (3, (upd (upd (upd (fun _ => (0 : Int32)) 0 v15) 1 ((1 : Int32) + v16)) 2 (1 : Int32)))), uG.2.2.2.2.2.2.2.2.2.2.2) ++ ([] : va_W))) := hD
      refine lv_aload_n hx hb dL_act_343 rfl (lv_at hl 2 rfl) ?_
      refine va_get (D := (dC, dI)) (ci := 5) (v := .ref q19) (C := RX5) (T := TX5) (N := 14) hx hb hts inX5 hown hK hP 28 rfl rfl 10 (by decide) (hts _ qf_L_49) (fun _ h9 => h9) rfl dL_act_344 ?_
      refine va_alen (v := (nI (pR uG.2.2.2.2.2.2.2.2.2.2.1 (3, (upd (upd (upd (fun _ => (0 : Int32)) 0 v15) 1 ((1 : Int32) + v16)) 2 (1 : Int32)))).1)) hx hb hK hP 32 2 rfl rfl rfl dL_act_347 ?_
      refine lv_iconst (v := (1 : Int32)) hx hb dL_act_348 (by decide) ?_
      refine lv_isub hx hb dL_act_349 ?_
      refine lv_icmp_ne (tgt := 357) hx hb dL_act_350 (by decide) (fun hc => ?_) (fun hc => ?_)
      · have hok := iq hok hc
        refine lv_iconst (v := (0 : Int32)) hx hb dL_act_357 (by decide) ?_
        have hok := Option.some.inj hok
        subst hok
        exact eAz S hr hlk (by decide) rfl (g7, g8, g9, q19, g11, g12, G9, (va_up G10 uG.2.2.2.2.2.2.2.2.2.2.1.1 q14), G11, G12) (nx_P hP) (nx_D hD) hS (Nat.le_of_ble_eq_true rfl) (Nat.le_of_ble_eq_true rfl) dL_act_358
      · have hok := ip hok hc
        refine lv_iconst (v := (1 : Int32)) hx hb dL_act_353 (by decide) ?_
        refine lv_goto (tgt := 358) hx hb dL_act_354 (by decide) ?_
        have hok := Option.some.inj hok
        subst hok
        exact eAz S hr hlk (by decide) rfl (g7, g8, g9, q19, g11, g12, G9, (va_up G10 uG.2.2.2.2.2.2.2.2.2.2.1.1 q14), G11, G12) (nx_P hP) (nx_D hD) hS (Nat.le_of_ble_eq_true rfl) (Nat.le_of_ble_eq_true rfl) dL_act_358
    · have hok := ip hok hc
      refine lv_iconst (v := (1 : Int32)) hx hb dL_act_285 (by decide) ?_
      have hok := Option.some.inj hok
      subst hok
      exact eAz S hr hlk (by decide) rfl (g7, g8, g9, g10, g11, g12, G9, G10, G11, G12) (nx_P hP) (nx_D hD) hS (Nat.le_of_ble_eq_true rfl) (Nat.le_of_ble_eq_true rfl) dL_act_286
  have J249 : ∀ (g7 : Nat) (g8 : Nat) (g9 : Nat) (g10 : Nat) (g11 : Nat) (g12 : Nat) (G9 : (Nat → Nat)) (G10 : (Nat → Nat)) (G11 : (Nat → Nat)) (G12 : (Nat → Nat)) (uH : tX1) (uC : tX0) (uI : tX2) (uM : tX3) (uG : tX5) (l249_6 : Int32) (s249_0 : Int32) (s249_1 : Int32) (s249_2 : Int32) (H : Heap) (locs : List Loc) (hP : va_P (dC, dI) vwCl ((wN cI cZ n0 h0 h3 h4 h5 h6 c0 c8 c9 c10 c11 c12 c13 t0 t8 t9 t10 t11 t12 t13 i0 i1 i2 i3 i4 m0 m1 m2 uH uC uT uI uM) ++ (wX5 cI cZ cJ g0 g7 g8 g9 g10 g11 g12 G9 G10 G11 G12 uG ++ ([] : va_W))) H) (hD : va_D A ((wN cI cZ n0 h0 h3 h4 h5 h6 c0 c8 c9 c10 c11 c12 c13 t0 t8 t9 t10 t11 t12 t13 i0 i1 i2 i3 i4 m0 m1 m2 uH uC uT uI uM) ++ (wX5 cI cZ cJ g0 g7 g8 g9 g10 g11 g12 G9 G10 G11 G12 uG ++ ([] : va_W)))) (hS : va_S A s.heap H locs) (ls : Array Slot) (hl : lv_has ls 13 [(0, .ref n0), (1, .ref g0), (6, .int l249_6)]) (hok : p_L_act_J249 uH uC uT uI uM uG l249_6 s249_0 s249_1 s249_2 = some z), W p l e { frames := 5, cells := 122, slots := 8235, locals := 114 } s m args below meth c H locs 0 0 (MQ below (va_Qi (fun (r : Int32) (_ : (Nat × Nat × Nat × Nat × Nat × Nat × (Nat → Nat) × (Nat → Nat) × (Nat → Nat) × (Nat → Nat))) => r = z.1) (fun a9 t => va_P (dC, dI) vwCl ((wN cI cZ n0 h0 h3 h4 h5 h6 c0 c8 c9 c10 c11 c12 c13 t0 t8 t9 t10 t11 t12 t13 i0 i1 i2 i3 i4 m0 m1 m2 z.2.1 z.2.2.1 uT z.2.2.2.1 z.2.2.2.2.1) ++ wX5 cI cZ cJ g0 a9.1 a9.2.1 a9.2.2.1 a9.2.2.2.1 a9.2.2.2.2.1 a9.2.2.2.2.2.1 a9.2.2.2.2.2.2.1 a9.2.2.2.2.2.2.2.1 a9.2.2.2.2.2.2.2.2.1 a9.2.2.2.2.2.2.2.2.2 z.2.2.2.2.2) t.heap ∧ va_D A ((wN cI cZ n0 h0 h3 h4 h5 h6 c0 c8 c9 c10 c11 c12 c13 t0 t8 t9 t10 t11 t12 t13 i0 i1 i2 i3 i4 m0 m1 m2 z.2.1 z.2.2.1 uT z.2.2.2.1 z.2.2.2.2.1) ++ wX5 cI cZ cJ g0 a9.1 a9.2.1 a9.2.2.1 a9.2.2.2.1 a9.2.2.2.2.1 a9.2.2.2.2.2.1 a9.2.2.2.2.2.2.1 a9.2.2.2.2.2.2.2.1 a9.2.2.2.2.2.2.2.2.1 a9.2.2.2.2.2.2.2.2.2 z.2.2.2.2.2)) A) args s 122 8235 A) (F0 m 249 ls [.int s249_0, .int s249_1, .int s249_2, .ref g0]) := by
    intro g7 g8 g9 g10 g11 g12 G9 G10 G11 G12 uH uC uI uM uG l249_6 s249_0 s249_1 s249_2 H locs hP hD hS ls hl hok
    unfold p_L_act_J249 at hok
    obtain ⟨v48, hc48, hok⟩ := bd_some hok
    refine cRSi [.int s249_1, .int s249_0] S hK2 va_Pnil (c_L_below l dC dI cI cZ s249_1 s249_0 hc48) (lw_S qm_L_15 qt_L_below qn_L qc_L_below) hd_L_below ⟨rfl, rfl⟩ ⟨Nat.le_of_ble_eq_true rfl, Nat.le_of_ble_eq_true rfl⟩ ⟨Nat.le_of_ble_eq_true rfl, Nat.le_of_ble_eq_true rfl⟩ rfl hl.1 (Nat.le_of_ble_eq_true rfl) rfl dL_act_249 ?_
    refine lv_iadd hx hb dL_act_252 ?_
    refine va_put (D := (dC, dI)) (ci := 5) (v := .int (s249_2 + v48)) (ty := .int) (C := RX5) (T := TX5) (N := 14) hx hb hts inX5 tyX5 tyX5_ok nmX5 hown hK hP hD hS 28 rfl rfl 5 (by decide) (hts _ qf_L_42) (fun _ h9 => h9) rfl (tyX5_ok 5 (by decide)) rfl rfl (Nat.le_of_ble_eq_true rfl) dL_act_253 (fun H locs hP hD hS => ?_)
    have hP : va_P (dC, dI) vwCl ((wN cI cZ n0 h0 h3 h4 h5 h6 c0 c8 c9 c10 c11 c12 c13 t0 t8 t9 t10 t11 t12 t13 i0 i1 i2 i3 i4 m0 m1 m2 uH uC uT uI uM) ++ (wX5 cI cZ cJ g0 g7 g8 g9 g10 g11 g12 G9 G10 G11 G12 (uG.1, uG.2.1, uG.2.2.1, uG.2.2.2.1, uG.2.2.2.2.1, (s249_2 + v48), uG.2.2.2.2.2.2) ++ ([] : va_W))) H := hP
    have hD : va_D A ((wN cI cZ n0 h0 h3 h4 h5 h6 c0 c8 c9 c10 c11 c12 c13 t0 t8 t9 t10 t11 t12 t13 i0 i1 i2 i3 i4 m0 m1 m2 uH uC uT uI uM) ++ (wX5 cI cZ cJ g0 g7 g8 g9 g10 g11 g12 G9 G10 G11 G12 (uG.1, uG.2.1, uG.2.2.1, uG.2.2.2.1, uG.2.2.2.2.1, (s249_2 + v48), uG.2.2.2.2.2.2) ++ ([] : va_W))) := hD
    refine lv_aload_n hx hb dL_act_256 rfl (lv_at hl 0 rfl) ?_
    refine lv_aload_n hx hb dL_act_257 rfl (lv_at hl 1 rfl) ?_
    refine va_get (D := (dC, dI)) (ci := 5) (v := .int (s249_2 + v48)) (C := RX5) (T := TX5) (N := 14) hx hb hts inX5 hown hK hP 28 rfl rfl 5 (by decide) (hts _ qf_L_42) (fun _ h9 => h9) rfl dL_act_258 ?_
    obtain ⟨v49, hc49, hok⟩ := bd_some hok
    refine cUVi (ci := 4) (q0 := 0) [.int (s249_2 + v48)] S hK2 (va_Pmid (wa := []) hP) (va_Dmid (wa := []) hD) hS hA (c_X4_setLimit l dC dI cI cZ n0 h0 h3 h4 h5 h6 c0 c8 c9 c10 c11 c12 c13 t0 t8 t9 t10 t11 t12 t13 i0 i1 i2 i3 i4 m0 m1 m2 _ uH uC uT uI uM (s249_2 + v48) hc49) (lw_V qm_L_46 qi_X4_setLimit qs_X4_setLimit qn_X4 qc_X4_setLimit) hd_X4_setLimit ⟨rfl, rfl⟩ ⟨Nat.le_of_ble_eq_true rfl, Nat.le_of_ble_eq_true rfl⟩ ⟨Nat.le_of_ble_eq_true rfl, Nat.le_of_ble_eq_true rfl⟩ rfl rfl rfl hl.1 (Nat.le_of_ble_eq_true rfl) rfl dL_act_261 (fun H1 hk9 h9 => fr_joinM (wa := []) hP hD K_N hk9 h9) (va_Dmids (wa := []) K_N hD) (fun H locs hP hD hS => ?_)
    have hP : va_P (dC, dI) vwCl ((wN cI cZ n0 h0 h3 h4 h5 h6 c0 c8 c9 c10 c11 c12 c13 t0 t8 t9 t10 t11 t12 t13 i0 i1 i2 i3 i4 m0 m1 m2 v49.2 uC uT uI uM) ++ (wX5 cI cZ cJ g0 g7 g8 g9 g10 g11 g12 G9 G10 G11 G12 (uG.1, uG.2.1, uG.2.2.1, uG.2.2.2.1, uG.2.2.2.2.1, (s249_2 + v48), uG.2.2.2.2.2.2) ++ ([] : va_W))) H := hP
    have hD : va_D A ((wN cI cZ n0 h0 h3 h4 h5 h6 c0 c8 c9 c10 c11 c12 c13 t0 t8 t9 t10 t11 t12 t13 i0 i1 i2 i3 i4 m0 m1 m2 v49.2 uC uT uI uM) ++ (wX5 cI cZ cJ g0 g7 g8 g9 g10 g11 g12 G9 G10 G11 G12 (uG.1, uG.2.1, uG.2.2.1, uG.2.2.2.1, uG.2.2.2.2.1, (s249_2 + v48), uG.2.2.2.2.2.2) ++ ([] : va_W))) := hD
    refine lv_iload hx hb dL_act_264 (lv_at hl 2 rfl) ?_
    refine lv_icmp_ne (tgt := 273) hx hb dL_act_266 (by decide) (fun hc => ?_) (fun hc => ?_)
    · have hok := iq hok hc
      refine lv_iconst (v := (0 : Int32)) hx hb dL_act_273 (by decide) ?_
      have hok := Option.some.inj hok
      subst hok
      exact eAz S hr hlk (by decide) rfl (g7, g8, g9, g10, g11, g12, G9, G10, G11, G12) (nx_P hP) (nx_D hD) hS (Nat.le_of_ble_eq_true rfl) (Nat.le_of_ble_eq_true rfl) dL_act_274
    · have hok := ip hok hc
      refine lv_iconst (v := (1 : Int32)) hx hb dL_act_269 (by decide) ?_
      refine lv_goto (tgt := 274) hx hb dL_act_270 (by decide) ?_
      have hok := Option.some.inj hok
      subst hok
      exact eAz S hr hlk (by decide) rfl (g7, g8, g9, g10, g11, g12, G9, G10, G11, G12) (nx_P hP) (nx_D hD) hS (Nat.le_of_ble_eq_true rfl) (Nat.le_of_ble_eq_true rfl) dL_act_274
  have J223 : ∀ (g7 : Nat) (g8 : Nat) (g9 : Nat) (g10 : Nat) (g11 : Nat) (g12 : Nat) (G9 : (Nat → Nat)) (G10 : (Nat → Nat)) (G11 : (Nat → Nat)) (G12 : (Nat → Nat)) (uH : tX1) (uC : tX0) (uI : tX2) (uM : tX3) (uG : tX5) (l223_2 : Int32) (H : Heap) (locs : List Loc) (hP : va_P (dC, dI) vwCl ((wN cI cZ n0 h0 h3 h4 h5 h6 c0 c8 c9 c10 c11 c12 c13 t0 t8 t9 t10 t11 t12 t13 i0 i1 i2 i3 i4 m0 m1 m2 uH uC uT uI uM) ++ (wX5 cI cZ cJ g0 g7 g8 g9 g10 g11 g12 G9 G10 G11 G12 uG ++ ([] : va_W))) H) (hD : va_D A ((wN cI cZ n0 h0 h3 h4 h5 h6 c0 c8 c9 c10 c11 c12 c13 t0 t8 t9 t10 t11 t12 t13 i0 i1 i2 i3 i4 m0 m1 m2 uH uC uT uI uM) ++ (wX5 cI cZ cJ g0 g7 g8 g9 g10 g11 g12 G9 G10 G11 G12 uG ++ ([] : va_W)))) (hS : va_S A s.heap H locs) (ls : Array Slot) (hl : lv_has ls 13 [(0, .ref n0), (1, .ref g0), (2, .int l223_2)]) (hok : p_L_act_J223 uH uC uT uI uM uG l223_2 = some z), W p l e { frames := 5, cells := 122, slots := 8235, locals := 114 } s m args below meth c H locs 0 0 (MQ below (va_Qi (fun (r : Int32) (_ : (Nat × Nat × Nat × Nat × Nat × Nat × (Nat → Nat) × (Nat → Nat) × (Nat → Nat) × (Nat → Nat))) => r = z.1) (fun a9 t => va_P (dC, dI) vwCl ((wN cI cZ n0 h0 h3 h4 h5 h6 c0 c8 c9 c10 c11 c12 c13 t0 t8 t9 t10 t11 t12 t13 i0 i1 i2 i3 i4 m0 m1 m2 z.2.1 z.2.2.1 uT z.2.2.2.1 z.2.2.2.2.1) ++ wX5 cI cZ cJ g0 a9.1 a9.2.1 a9.2.2.1 a9.2.2.2.1 a9.2.2.2.2.1 a9.2.2.2.2.2.1 a9.2.2.2.2.2.2.1 a9.2.2.2.2.2.2.2.1 a9.2.2.2.2.2.2.2.2.1 a9.2.2.2.2.2.2.2.2.2 z.2.2.2.2.2) t.heap ∧ va_D A ((wN cI cZ n0 h0 h3 h4 h5 h6 c0 c8 c9 c10 c11 c12 c13 t0 t8 t9 t10 t11 t12 t13 i0 i1 i2 i3 i4 m0 m1 m2 z.2.1 z.2.2.1 uT z.2.2.2.1 z.2.2.2.2.1) ++ wX5 cI cZ cJ g0 a9.1 a9.2.1 a9.2.2.1 a9.2.2.2.1 a9.2.2.2.2.1 a9.2.2.2.2.2.1 a9.2.2.2.2.2.2.1 a9.2.2.2.2.2.2.2.1 a9.2.2.2.2.2.2.2.2.1 a9.2.2.2.2.2.2.2.2.2 z.2.2.2.2.2)) A) args s 122 8235 A) (F0 m 223 ls []) := by
    intro g7 g8 g9 g10 g11 g12 G9 G10 G11 G12 uH uC uI uM uG l223_2 H locs hP hD hS ls hl hok
    unfold p_L_act_J223 at hok
    refine lv_aload_n hx hb dL_act_223 rfl (lv_at hl 1 rfl) ?_
    refine va_get (D := (dC, dI)) (ci := 5) (v := .int uG.2.2.2.2.2.1) (C := RX5) (T := TX5) (N := 14) hx hb hts inX5 hown hK hP 28 rfl rfl 5 (by decide) (hts _ qf_L_42) (fun _ h9 => h9) rfl dL_act_224 ?_
    refine lv_istore (lv' := [(6, .int uG.2.2.2.2.2.1), (0, .ref n0), (1, .ref g0), (2, .int l223_2)]) hx hb dL_act_227 hl (by decide) rfl (fun ls hl => ?_)
    refine lv_aload_n hx hb dL_act_229 rfl (lv_at hl 2 rfl) ?_
    refine lv_iconst (v := (1 : Int32)) hx hb dL_act_230 (by decide) ?_
    refine lv_iload_n hx hb dL_act_231 rfl (lv_at hl 3 rfl) ?_
    refine lv_iconst (v := (1 : Int32)) hx hb dL_act_232 (by decide) ?_
    refine lv_ishr hx hb dL_act_233 ?_
    refine lv_iload_n hx hb dL_act_234 rfl (lv_at hl 3 rfl) ?_
    refine lv_iconst (v := (2 : Int32)) hx hb dL_act_235 (by decide) ?_
    obtain ⟨v13, hc13, hok⟩ := bd_some hok
    refine cRSi [.int l223_2, .int (2 : Int32)] S hK2 va_Pnil (c_L_below l dC dI cI cZ l223_2 (2 : Int32) hc13) (lw_S qm_L_15 qt_L_below qn_L qc_L_below) hd_L_below ⟨rfl, rfl⟩ ⟨Nat.le_of_ble_eq_true rfl, Nat.le_of_ble_eq_true rfl⟩ ⟨Nat.le_of_ble_eq_true rfl, Nat.le_of_ble_eq_true rfl⟩ rfl hl.1 (Nat.le_of_ble_eq_true rfl) rfl dL_act_236 ?_
    refine lv_if_ne (tgt := 247) hx hb dL_act_239 (by decide) (fun hc => ?_) (fun hc => ?_)
    · have hok := iq hok hc
      refine lv_bipush (v := (12 : Int32)) hx hb dL_act_247 (by decide) ?_
      exact J249 g7 g8 g9 g10 g11 g12 G9 G10 G11 G12 uH uC uI uM uG uG.2.2.2.2.2.1 (12 : Int32) (l223_2 >>> ((1 : Int32) &&& 31)) (1 : Int32) _ _ hP hD hS _ (lv_sub hl [1, 2, 0] rfl) hok
    · have hok := ip hok hc
      refine lv_bipush (v := (99 : Int32)) hx hb dL_act_242 (by decide) ?_
      refine lv_goto (tgt := 249) hx hb dL_act_244 (by decide) ?_
      exact J249 g7 g8 g9 g10 g11 g12 G9 G10 G11 G12 uH uC uI uM uG uG.2.2.2.2.2.1 (99 : Int32) (l223_2 >>> ((1 : Int32) &&& 31)) (1 : Int32) _ _ hP hD hS _ (lv_sub hl [1, 2, 0] rfl) hok
  have J200 : ∀ (g7 : Nat) (g8 : Nat) (g9 : Nat) (g10 : Nat) (g11 : Nat) (g12 : Nat) (G9 : (Nat → Nat)) (G10 : (Nat → Nat)) (G11 : (Nat → Nat)) (G12 : (Nat → Nat)) (uH : tX1) (uC : tX0) (uI : tX2) (uM : tX3) (uG : tX5) (l200_5 : Int32) (s200_0 : Int32) (s200_1 : Int32) (H : Heap) (locs : List Loc) (hP : va_P (dC, dI) vwCl ((wN cI cZ n0 h0 h3 h4 h5 h6 c0 c8 c9 c10 c11 c12 c13 t0 t8 t9 t10 t11 t12 t13 i0 i1 i2 i3 i4 m0 m1 m2 uH uC uT uI uM) ++ (wX5 cI cZ cJ g0 g7 g8 g9 g10 g11 g12 G9 G10 G11 G12 uG ++ ([] : va_W))) H) (hD : va_D A ((wN cI cZ n0 h0 h3 h4 h5 h6 c0 c8 c9 c10 c11 c12 c13 t0 t8 t9 t10 t11 t12 t13 i0 i1 i2 i3 i4 m0 m1 m2 uH uC uT uI uM) ++ (wX5 cI cZ cJ g0 g7 g8 g9 g10 g11 g12 G9 G10 G11 G12 uG ++ ([] : va_W)))) (hS : va_S A s.heap H locs) (ls : Array Slot) (hl : lv_has ls 13 [(0, .ref n0), (1, .ref g0), (5, .int l200_5)]) (hok : p_L_act_J200 uH uC uT uI uM uG l200_5 s200_0 s200_1 = some z), W p l e { frames := 5, cells := 122, slots := 8235, locals := 114 } s m args below meth c H locs 0 0 (MQ below (va_Qi (fun (r : Int32) (_ : (Nat × Nat × Nat × Nat × Nat × Nat × (Nat → Nat) × (Nat → Nat) × (Nat → Nat) × (Nat → Nat))) => r = z.1) (fun a9 t => va_P (dC, dI) vwCl ((wN cI cZ n0 h0 h3 h4 h5 h6 c0 c8 c9 c10 c11 c12 c13 t0 t8 t9 t10 t11 t12 t13 i0 i1 i2 i3 i4 m0 m1 m2 z.2.1 z.2.2.1 uT z.2.2.2.1 z.2.2.2.2.1) ++ wX5 cI cZ cJ g0 a9.1 a9.2.1 a9.2.2.1 a9.2.2.2.1 a9.2.2.2.2.1 a9.2.2.2.2.2.1 a9.2.2.2.2.2.2.1 a9.2.2.2.2.2.2.2.1 a9.2.2.2.2.2.2.2.2.1 a9.2.2.2.2.2.2.2.2.2 z.2.2.2.2.2) t.heap ∧ va_D A ((wN cI cZ n0 h0 h3 h4 h5 h6 c0 c8 c9 c10 c11 c12 c13 t0 t8 t9 t10 t11 t12 t13 i0 i1 i2 i3 i4 m0 m1 m2 z.2.1 z.2.2.1 uT z.2.2.2.1 z.2.2.2.2.1) ++ wX5 cI cZ cJ g0 a9.1 a9.2.1 a9.2.2.1 a9.2.2.2.1 a9.2.2.2.2.1 a9.2.2.2.2.2.1 a9.2.2.2.2.2.2.1 a9.2.2.2.2.2.2.2.1 a9.2.2.2.2.2.2.2.2.1 a9.2.2.2.2.2.2.2.2.2 z.2.2.2.2.2)) A) args s 122 8235 A) (F0 m 200 ls [.int s200_0, .int s200_1, .ref g8]) := by
    intro g7 g8 g9 g10 g11 g12 G9 G10 G11 G12 uH uC uI uM uG l200_5 s200_0 s200_1 H locs hP hD hS ls hl hok
    unfold p_L_act_J200 at hok
    obtain ⟨hi45, hok⟩ := gd_some hok
    refine va_zast hx hb hK hP hD hS 30 1 rfl rfl hi45 dL_act_200 (fun H locs hP hD hS => ?_)
    have hP : va_P (dC, dI) vwCl ((wN cI cZ n0 h0 h3 h4 h5 h6 c0 c8 c9 c10 c11 c12 c13 t0 t8 t9 t10 t11 t12 t13 i0 i1 i2 i3 i4 m0 m1 m2 uH uC uT uI uM) ++ (wX5 cI cZ cJ g0 g7 g8 g9 g10 g11 g12 G9 G10 G11 G12 (uG.1, uG.2.1, uG.2.2.1, uG.2.2.2.1, uG.2.2.2.2.1, uG.2.2.2.2.2.1, uG.2.2.2.2.2.2.1, uG.2.2.2.2.2.2.2.1, (upd uG.2.2.2.2.2.2.2.2.1 s200_1.toNatClampNeg (vp_nar .boolean s200_0)), uG.2.2.2.2.2.2.2.2.2) ++ ([] : va_W))) H := hP
    have hD : va_D A ((wN cI cZ n0 h0 h3 h4 h5 h6 c0 c8 c9 c10 c11 c12 c13 t0 t8 t9 t10 t11 t12 t13 i0 i1 i2 i3 i4 m0 m1 m2 uH uC uT uI uM) ++ (wX5 cI cZ cJ g0 g7 g8 g9 g10 g11 g12 G9 G10 G11 G12 (uG.1, uG.2.1, uG.2.2.1, uG.2.2.2.1, uG.2.2.2.2.1, uG.2.2.2.2.2.1, uG.2.2.2.2.2.2.1, uG.2.2.2.2.2.2.2.1, (upd uG.2.2.2.2.2.2.2.2.1 s200_1.toNatClampNeg (vp_nar .boolean s200_0)), uG.2.2.2.2.2.2.2.2.2) ++ ([] : va_W))) := hD
    refine lv_aload_n hx hb dL_act_201 rfl (lv_at hl 0 rfl) ?_
    refine lv_iload hx hb dL_act_202 (lv_at hl 2 rfl) ?_
    obtain ⟨v46, hc46, hok⟩ := bd_some hok
    refine cUVi (ci := 4) (q0 := 0) [.int l200_5] S hK2 (va_Pmid (wa := []) hP) (va_Dmid (wa := []) hD) hS hA (c_X4_turnTopic l dC dI cI cZ n0 h0 h3 h4 h5 h6 c0 c8 c9 c10 c11 c12 c13 t0 t8 t9 t10 t11 t12 t13 i0 i1 i2 i3 i4 m0 m1 m2 _ uH uC uT uI uM l200_5 hc46) (lw_V qm_L_38 qi_X4_turnTopic qs_X4_turnTopic qn_X4 qc_X4_turnTopic) hd_X4_turnTopic ⟨rfl, rfl⟩ ⟨Nat.le_of_ble_eq_true rfl, Nat.le_of_ble_eq_true rfl⟩ ⟨Nat.le_of_ble_eq_true rfl, Nat.le_of_ble_eq_true rfl⟩ rfl rfl rfl hl.1 (Nat.le_of_ble_eq_true rfl) rfl dL_act_204 (fun H1 hk9 h9 => fr_joinM (wa := []) hP hD K_N hk9 h9) (va_Dmids (wa := []) K_N hD) (fun H locs hP hD hS => ?_)
    have hP : va_P (dC, dI) vwCl ((wN cI cZ n0 h0 h3 h4 h5 h6 c0 c8 c9 c10 c11 c12 c13 t0 t8 t9 t10 t11 t12 t13 i0 i1 i2 i3 i4 m0 m1 m2 uH v46.2 uT uI uM) ++ (wX5 cI cZ cJ g0 g7 g8 g9 g10 g11 g12 G9 G10 G11 G12 (uG.1, uG.2.1, uG.2.2.1, uG.2.2.2.1, uG.2.2.2.2.1, uG.2.2.2.2.2.1, uG.2.2.2.2.2.2.1, uG.2.2.2.2.2.2.2.1, (upd uG.2.2.2.2.2.2.2.2.1 s200_1.toNatClampNeg (vp_nar .boolean s200_0)), uG.2.2.2.2.2.2.2.2.2) ++ ([] : va_W))) H := hP
    have hD : va_D A ((wN cI cZ n0 h0 h3 h4 h5 h6 c0 c8 c9 c10 c11 c12 c13 t0 t8 t9 t10 t11 t12 t13 i0 i1 i2 i3 i4 m0 m1 m2 uH v46.2 uT uI uM) ++ (wX5 cI cZ cJ g0 g7 g8 g9 g10 g11 g12 G9 G10 G11 G12 (uG.1, uG.2.1, uG.2.2.1, uG.2.2.2.1, uG.2.2.2.2.1, uG.2.2.2.2.2.1, uG.2.2.2.2.2.2.1, uG.2.2.2.2.2.2.2.1, (upd uG.2.2.2.2.2.2.2.2.1 s200_1.toNatClampNeg (vp_nar .boolean s200_0)), uG.2.2.2.2.2.2.2.2.2) ++ ([] : va_W))) := hD
    refine lv_aload_n hx hb dL_act_207 rfl (lv_at hl 1 rfl) ?_
    refine va_get (D := (dC, dI)) (ci := 5) (v := .ref g8) (C := RX5) (T := TX5) (N := 14) hx hb hts inX5 hown hK hP 28 rfl rfl 8 (by decide) (hts _ qf_L_34) (fun _ h9 => h9) rfl dL_act_208 ?_
    refine lv_iload hx hb dL_act_211 (lv_at hl 2 rfl) ?_
    obtain ⟨hi47, hok⟩ := gd_some hok
    refine va_zald hx hb hK hP 30 1 rfl rfl hi47 dL_act_213 ?_
    refine lv_icmp_ne (tgt := 221) hx hb dL_act_214 (by decide) (fun hc => ?_) (fun hc => ?_)
    · have hok := iq hok hc
      refine lv_iconst (v := (0 : Int32)) hx hb dL_act_221 (by decide) ?_
      have hok := Option.some.inj hok
      subst hok
      exact eAz S hr hlk (by decide) rfl (g7, g8, g9, g10, g11, g12, G9, G10, G11, G12) (nx_P hP) (nx_D hD) hS (Nat.le_of_ble_eq_true rfl) (Nat.le_of_ble_eq_true rfl) dL_act_222
    · have hok := ip hok hc
      refine lv_iconst (v := (1 : Int32)) hx hb dL_act_217 (by decide) ?_
      refine lv_goto (tgt := 222) hx hb dL_act_218 (by decide) ?_
      have hok := Option.some.inj hok
      subst hok
      exact eAz S hr hlk (by decide) rfl (g7, g8, g9, g10, g11, g12, G9, G10, G11, G12) (nx_P hP) (nx_D hD) hS (Nat.le_of_ble_eq_true rfl) (Nat.le_of_ble_eq_true rfl) dL_act_222
  have J171 : ∀ (g7 : Nat) (g8 : Nat) (g9 : Nat) (g10 : Nat) (g11 : Nat) (g12 : Nat) (G9 : (Nat → Nat)) (G10 : (Nat → Nat)) (G11 : (Nat → Nat)) (G12 : (Nat → Nat)) (uH : tX1) (uC : tX0) (uI : tX2) (uM : tX3) (uG : tX5) (l171_2 : Int32) (H : Heap) (locs : List Loc) (hP : va_P (dC, dI) vwCl ((wN cI cZ n0 h0 h3 h4 h5 h6 c0 c8 c9 c10 c11 c12 c13 t0 t8 t9 t10 t11 t12 t13 i0 i1 i2 i3 i4 m0 m1 m2 uH uC uT uI uM) ++ (wX5 cI cZ cJ g0 g7 g8 g9 g10 g11 g12 G9 G10 G11 G12 uG ++ ([] : va_W))) H) (hD : va_D A ((wN cI cZ n0 h0 h3 h4 h5 h6 c0 c8 c9 c10 c11 c12 c13 t0 t8 t9 t10 t11 t12 t13 i0 i1 i2 i3 i4 m0 m1 m2 uH uC uT uI uM) ++ (wX5 cI cZ cJ g0 g7 g8 g9 g10 g11 g12 G9 G10 G11 G12 uG ++ ([] : va_W)))) (hS : va_S A s.heap H locs) (ls : Array Slot) (hl : lv_has ls 13 [(0, .ref n0), (1, .ref g0), (2, .int l171_2)]) (hok : p_L_act_J171 uH uC uT uI uM uG l171_2 = some z), W p l e { frames := 5, cells := 122, slots := 8235, locals := 114 } s m args below meth c H locs 0 0 (MQ below (va_Qi (fun (r : Int32) (_ : (Nat × Nat × Nat × Nat × Nat × Nat × (Nat → Nat) × (Nat → Nat) × (Nat → Nat) × (Nat → Nat))) => r = z.1) (fun a9 t => va_P (dC, dI) vwCl ((wN cI cZ n0 h0 h3 h4 h5 h6 c0 c8 c9 c10 c11 c12 c13 t0 t8 t9 t10 t11 t12 t13 i0 i1 i2 i3 i4 m0 m1 m2 z.2.1 z.2.2.1 uT z.2.2.2.1 z.2.2.2.2.1) ++ wX5 cI cZ cJ g0 a9.1 a9.2.1 a9.2.2.1 a9.2.2.2.1 a9.2.2.2.2.1 a9.2.2.2.2.2.1 a9.2.2.2.2.2.2.1 a9.2.2.2.2.2.2.2.1 a9.2.2.2.2.2.2.2.2.1 a9.2.2.2.2.2.2.2.2.2 z.2.2.2.2.2) t.heap ∧ va_D A ((wN cI cZ n0 h0 h3 h4 h5 h6 c0 c8 c9 c10 c11 c12 c13 t0 t8 t9 t10 t11 t12 t13 i0 i1 i2 i3 i4 m0 m1 m2 z.2.1 z.2.2.1 uT z.2.2.2.1 z.2.2.2.2.1) ++ wX5 cI cZ cJ g0 a9.1 a9.2.1 a9.2.2.1 a9.2.2.2.1 a9.2.2.2.2.1 a9.2.2.2.2.2.1 a9.2.2.2.2.2.2.1 a9.2.2.2.2.2.2.2.1 a9.2.2.2.2.2.2.2.2.1 a9.2.2.2.2.2.2.2.2.2 z.2.2.2.2.2)) A) args s 122 8235 A) (F0 m 171 ls []) := by
    intro g7 g8 g9 g10 g11 g12 G9 G10 G11 G12 uH uC uI uM uG l171_2 H locs hP hD hS ls hl hok
    unfold p_L_act_J171 at hok
    refine lv_iload_n hx hb dL_act_171 rfl (lv_at hl 2 rfl) ?_
    refine lv_bipush (v := (8 : Int32)) hx hb dL_act_172 (by decide) ?_
    obtain ⟨v11, hc11, hok⟩ := bd_some hok
    refine cRSi [.int l171_2, .int (8 : Int32)] S hK2 va_Pnil (c_L_below l dC dI cI cZ l171_2 (8 : Int32) hc11) (lw_S qm_L_15 qt_L_below qn_L qc_L_below) hd_L_below ⟨rfl, rfl⟩ ⟨Nat.le_of_ble_eq_true rfl, Nat.le_of_ble_eq_true rfl⟩ ⟨Nat.le_of_ble_eq_true rfl, Nat.le_of_ble_eq_true rfl⟩ rfl hl.1 (Nat.le_of_ble_eq_true rfl) rfl dL_act_174 ?_
    refine lv_istore (lv' := [(5, .int v11), (0, .ref n0), (1, .ref g0), (2, .int l171_2)]) hx hb dL_act_177 hl (by decide) rfl (fun ls hl => ?_)
    refine lv_aload_n hx hb dL_act_179 rfl (lv_at hl 2 rfl) ?_
    refine va_get (D := (dC, dI)) (ci := 5) (v := .ref g8) (C := RX5) (T := TX5) (N := 14) hx hb hts inX5 hown hK hP 28 rfl rfl 8 (by decide) (hts _ qf_L_34) (fun _ h9 => h9) rfl dL_act_180 ?_
    refine lv_iload hx hb dL_act_183 (lv_at hl 0 rfl) ?_
    refine lv_aload_n hx hb dL_act_185 rfl (lv_at hl 2 rfl) ?_
    refine va_get (D := (dC, dI)) (ci := 5) (v := .ref g8) (C := RX5) (T := TX5) (N := 14) hx hb hts inX5 hown hK hP 28 rfl rfl 8 (by decide) (hts _ qf_L_34) (fun _ h9 => h9) rfl dL_act_186 ?_
    refine lv_iload hx hb dL_act_189 (lv_at hl 0 rfl) ?_
    obtain ⟨hi12, hok⟩ := gd_some hok
    refine va_zald hx hb hK hP 30 1 rfl rfl hi12 dL_act_191 ?_
    refine lv_if_ne (tgt := 199) hx hb dL_act_192 (by decide) (fun hc => ?_) (fun hc => ?_)
    · have hok := iq hok hc
      refine lv_iconst (v := (0 : Int32)) hx hb dL_act_199 (by decide) ?_
      exact J200 g7 g8 g9 g10 g11 g12 G9 G10 G11 G12 uH uC uI uM uG v11 (0 : Int32) v11 _ _ hP hD hS _ (lv_sub hl [1, 2, 0] rfl) hok
    · have hok := ip hok hc
      refine lv_iconst (v := (1 : Int32)) hx hb dL_act_195 (by decide) ?_
      refine lv_goto (tgt := 200) hx hb dL_act_196 (by decide) ?_
      exact J200 g7 g8 g9 g10 g11 g12 G9 G10 G11 G12 uH uC uI uM uG v11 (1 : Int32) v11 _ _ hP hD hS _ (lv_sub hl [1, 2, 0] rfl) hok
  have J120 : ∀ (g7 : Nat) (g8 : Nat) (g9 : Nat) (g10 : Nat) (g11 : Nat) (g12 : Nat) (G9 : (Nat → Nat)) (G10 : (Nat → Nat)) (G11 : (Nat → Nat)) (G12 : (Nat → Nat)) (uH : tX1) (uC : tX0) (uI : tX2) (uM : tX3) (uG : tX5) (l120_2 : Int32) (H : Heap) (locs : List Loc) (hP : va_P (dC, dI) vwCl ((wN cI cZ n0 h0 h3 h4 h5 h6 c0 c8 c9 c10 c11 c12 c13 t0 t8 t9 t10 t11 t12 t13 i0 i1 i2 i3 i4 m0 m1 m2 uH uC uT uI uM) ++ (wX5 cI cZ cJ g0 g7 g8 g9 g10 g11 g12 G9 G10 G11 G12 uG ++ ([] : va_W))) H) (hD : va_D A ((wN cI cZ n0 h0 h3 h4 h5 h6 c0 c8 c9 c10 c11 c12 c13 t0 t8 t9 t10 t11 t12 t13 i0 i1 i2 i3 i4 m0 m1 m2 uH uC uT uI uM) ++ (wX5 cI cZ cJ g0 g7 g8 g9 g10 g11 g12 G9 G10 G11 G12 uG ++ ([] : va_W)))) (hS : va_S A s.heap H locs) (ls : Array Slot) (hl : lv_has ls 13 [(0, .ref n0), (1, .ref g0), (2, .int l120_2)]) (hok : p_L_act_J120 uH uC uT uI uM uG l120_2 = some z), W p l e { frames := 5, cells := 122, slots := 8235, locals := 114 } s m args below meth c H locs 0 0 (MQ below (va_Qi (fun (r : Int32) (_ : (Nat × Nat × Nat × Nat × Nat × Nat × (Nat → Nat) × (Nat → Nat) × (Nat → Nat) × (Nat → Nat))) => r = z.1) (fun a9 t => va_P (dC, dI) vwCl ((wN cI cZ n0 h0 h3 h4 h5 h6 c0 c8 c9 c10 c11 c12 c13 t0 t8 t9 t10 t11 t12 t13 i0 i1 i2 i3 i4 m0 m1 m2 z.2.1 z.2.2.1 uT z.2.2.2.1 z.2.2.2.2.1) ++ wX5 cI cZ cJ g0 a9.1 a9.2.1 a9.2.2.1 a9.2.2.2.1 a9.2.2.2.2.1 a9.2.2.2.2.2.1 a9.2.2.2.2.2.2.1 a9.2.2.2.2.2.2.2.1 a9.2.2.2.2.2.2.2.2.1 a9.2.2.2.2.2.2.2.2.2 z.2.2.2.2.2) t.heap ∧ va_D A ((wN cI cZ n0 h0 h3 h4 h5 h6 c0 c8 c9 c10 c11 c12 c13 t0 t8 t9 t10 t11 t12 t13 i0 i1 i2 i3 i4 m0 m1 m2 z.2.1 z.2.2.1 uT z.2.2.2.1 z.2.2.2.2.1) ++ wX5 cI cZ cJ g0 a9.1 a9.2.1 a9.2.2.1 a9.2.2.2.1 a9.2.2.2.2.1 a9.2.2.2.2.2.1 a9.2.2.2.2.2.2.1 a9.2.2.2.2.2.2.2.1 a9.2.2.2.2.2.2.2.2.1 a9.2.2.2.2.2.2.2.2.2 z.2.2.2.2.2)) A) args s 122 8235 A) (F0 m 120 ls []) := by
    intro g7 g8 g9 g10 g11 g12 G9 G10 G11 G12 uH uC uI uM uG l120_2 H locs hP hD hS ls hl hok
    unfold p_L_act_J120 at hok
    refine lv_iload_n hx hb dL_act_120 rfl (lv_at hl 2 rfl) ?_
    refine lv_iconst (v := (3 : Int32)) hx hb dL_act_121 (by decide) ?_
    obtain ⟨v4, hc4, hok⟩ := bd_some hok
    refine cRSi [.int l120_2, .int (3 : Int32)] S hK2 va_Pnil (c_L_below l dC dI cI cZ l120_2 (3 : Int32) hc4) (lw_S qm_L_15 qt_L_below qn_L qc_L_below) hd_L_below ⟨rfl, rfl⟩ ⟨Nat.le_of_ble_eq_true rfl, Nat.le_of_ble_eq_true rfl⟩ ⟨Nat.le_of_ble_eq_true rfl, Nat.le_of_ble_eq_true rfl⟩ rfl hl.1 (Nat.le_of_ble_eq_true rfl) rfl dL_act_122 ?_
    refine lv_if_le (tgt := 130) hx hb dL_act_125 (by decide) (fun hc => ?_) (fun hc => ?_)
    · have hok := ip hok hc
      refine lv_aload_n hx hb dL_act_130 rfl (lv_at hl 1 rfl) ?_
      refine lv_iconst (v := (2 : Int32)) hx hb dL_act_131 (by decide) ?_
      refine lv_iload_n hx hb dL_act_132 rfl (lv_at hl 2 rfl) ?_
      refine lv_iconst (v := (2 : Int32)) hx hb dL_act_133 (by decide) ?_
      refine lv_ishr hx hb dL_act_134 ?_
      refine lv_bipush (v := (11 : Int32)) hx hb dL_act_135 (by decide) ?_
      obtain ⟨v5, hc5, hok⟩ := bd_some hok
      refine cRSi [.int (l120_2 >>> ((2 : Int32) &&& 31)), .int (11 : Int32)] S hK2 va_Pnil (c_L_below l dC dI cI cZ (l120_2 >>> ((2 : Int32) &&& 31)) (11 : Int32) hc5) (lw_S qm_L_15 qt_L_below qn_L qc_L_below) hd_L_below ⟨rfl, rfl⟩ ⟨Nat.le_of_ble_eq_true rfl, Nat.le_of_ble_eq_true rfl⟩ ⟨Nat.le_of_ble_eq_true rfl, Nat.le_of_ble_eq_true rfl⟩ rfl hl.1 (Nat.le_of_ble_eq_true rfl) rfl dL_act_137 ?_
      refine lv_iadd hx hb dL_act_140 ?_
      obtain ⟨v6, hc6, hok⟩ := bd_some hok
      refine cAVv (ci := 5) (q0 := 0) [.int ((2 : Int32) + v5)] S hK hO hP hD hS hA (c_X5_begin l dC dI cI cZ cJ g0 g7 g8 g9 g10 g11 g12 G9 G10 G11 G12 _ uG ((2 : Int32) + v5) hc6) (lw_V qm_L_21 qi_X5_begin qs_X5_begin qn_X5 qc_X5_begin) hd_X5_begin ⟨rfl, rfl⟩ ⟨Nat.le_of_ble_eq_true rfl, Nat.le_of_ble_eq_true rfl⟩ ⟨Nat.le_of_ble_eq_true rfl, Nat.le_of_ble_eq_true rfl⟩ rfl rfl rfl hl.1 (Nat.le_of_ble_eq_true rfl) rfl dL_act_141 (fun a9 H locs hP hD hS => ?_)
      obtain ⟨g7_7, g8_7, g9_7, g10_7, g11_7, g12_7, G9_7, G10_7, G11_7, G12_7⟩ := a9
      have hP : va_P (dC, dI) vwCl ((wN cI cZ n0 h0 h3 h4 h5 h6 c0 c8 c9 c10 c11 c12 c13 t0 t8 t9 t10 t11 t12 t13 i0 i1 i2 i3 i4 m0 m1 m2 uH uC uT uI uM) ++ (wX5 cI cZ cJ g0 g7_7 g8_7 g9_7 g10_7 g11_7 g12_7 G9_7 G10_7 G11_7 G12_7 v6 ++ ([] : va_W))) H := hP
      have hD : va_D A ((wN cI cZ n0 h0 h3 h4 h5 h6 c0 c8 c9 c10 c11 c12 c13 t0 t8 t9 t10 t11 t12 t13 i0 i1 i2 i3 i4 m0 m1 m2 uH uC uT uI uM) ++ (wX5 cI cZ cJ g0 g7_7 g8_7 g9_7 g10_7 g11_7 g12_7 G9_7 G10_7 G11_7 G12_7 v6 ++ ([] : va_W))) := hD
      refine lv_aload_n hx hb dL_act_144 rfl (lv_at hl 0 rfl) ?_
      refine lv_iconst (v := (2 : Int32)) hx hb dL_act_145 (by decide) ?_
      refine lv_iload_n hx hb dL_act_146 rfl (lv_at hl 2 rfl) ?_
      refine lv_iconst (v := (2 : Int32)) hx hb dL_act_147 (by decide) ?_
      refine lv_ishr hx hb dL_act_148 ?_
      refine lv_bipush (v := (11 : Int32)) hx hb dL_act_149 (by decide) ?_
      obtain ⟨v8, hc8, hok⟩ := bd_some hok
      refine cRSi [.int (l120_2 >>> ((2 : Int32) &&& 31)), .int (11 : Int32)] S hK2 va_Pnil (c_L_below l dC dI cI cZ (l120_2 >>> ((2 : Int32) &&& 31)) (11 : Int32) hc8) (lw_S qm_L_15 qt_L_below qn_L qc_L_below) hd_L_below ⟨rfl, rfl⟩ ⟨Nat.le_of_ble_eq_true rfl, Nat.le_of_ble_eq_true rfl⟩ ⟨Nat.le_of_ble_eq_true rfl, Nat.le_of_ble_eq_true rfl⟩ rfl hl.1 (Nat.le_of_ble_eq_true rfl) rfl dL_act_151 ?_
      refine lv_iadd hx hb dL_act_154 ?_
      obtain ⟨v9, hc9, hok⟩ := bd_some hok
      refine cUVi (ci := 4) (q0 := 0) [.int ((2 : Int32) + v8)] S hK2 (va_Pmid (wa := []) hP) (va_Dmid (wa := []) hD) hS hA (c_X4_begin l dC dI cI cZ n0 h0 h3 h4 h5 h6 c0 c8 c9 c10 c11 c12 c13 t0 t8 t9 t10 t11 t12 t13 i0 i1 i2 i3 i4 m0 m1 m2 _ uH uC uT uI uM ((2 : Int32) + v8) hc9) (lw_V qm_L_25 qi_X4_begin qs_X4_begin qn_X4 qc_X4_begin) hd_X4_begin ⟨rfl, rfl⟩ ⟨Nat.le_of_ble_eq_true rfl, Nat.le_of_ble_eq_true rfl⟩ ⟨Nat.le_of_ble_eq_true rfl, Nat.le_of_ble_eq_true rfl⟩ rfl rfl rfl hl.1 (Nat.le_of_ble_eq_true rfl) rfl dL_act_155 (fun H1 hk9 h9 => fr_joinM (wa := []) hP hD K_N hk9 h9) (va_Dmids (wa := []) K_N hD) (fun H locs hP hD hS => ?_)
      have hP : va_P (dC, dI) vwCl ((wN cI cZ n0 h0 h3 h4 h5 h6 c0 c8 c9 c10 c11 c12 c13 t0 t8 t9 t10 t11 t12 t13 i0 i1 i2 i3 i4 m0 m1 m2 v9.2.1 v9.2.2.1 uT v9.2.2.2 uM) ++ (wX5 cI cZ cJ g0 g7_7 g8_7 g9_7 g10_7 g11_7 g12_7 G9_7 G10_7 G11_7 G12_7 v6 ++ ([] : va_W))) H := hP
      have hD : va_D A ((wN cI cZ n0 h0 h3 h4 h5 h6 c0 c8 c9 c10 c11 c12 c13 t0 t8 t9 t10 t11 t12 t13 i0 i1 i2 i3 i4 m0 m1 m2 v9.2.1 v9.2.2.1 uT v9.2.2.2 uM) ++ (wX5 cI cZ cJ g0 g7_7 g8_7 g9_7 g10_7 g11_7 g12_7 G9_7 G10_7 G11_7 G12_7 v6 ++ ([] : va_W))) := hD
      refine lv_aload_n hx hb dL_act_158 rfl (lv_at hl 1 rfl) ?_
      obtain ⟨v10, hc10, hok⟩ := bd_some hok
      refine cRVi (ci := 5) (q0 := 0) [] S hK (va_Pmid hP) (c_X5_subscribers l dC dI cI cZ cJ g0 g7_7 g8_7 g9_7 g10_7 g11_7 g12_7 G9_7 G10_7 G11_7 G12_7 v6 hc10) (lw_V qm_L_30 qi_X5_subscribers qs_X5_subscribers qn_X5 qc_X5_subscribers) hd_X5_subscribers ⟨rfl, rfl⟩ ⟨Nat.le_of_ble_eq_true rfl, Nat.le_of_ble_eq_true rfl⟩ ⟨Nat.le_of_ble_eq_true rfl, Nat.le_of_ble_eq_true rfl⟩ rfl rfl rfl hl.1 (Nat.le_of_ble_eq_true rfl) rfl dL_act_159 ?_
      refine lv_icmp_ne (tgt := 169) hx hb dL_act_162 (by decide) (fun hc => ?_) (fun hc => ?_)
      · have hok := iq hok hc
        refine lv_iconst (v := (0 : Int32)) hx hb dL_act_169 (by decide) ?_
        have hok := Option.some.inj hok
        subst hok
        exact eAz S hr hlk (by decide) rfl (g7_7, g8_7, g9_7, g10_7, g11_7, g12_7, G9_7, G10_7, G11_7, G12_7) (nx_P hP) (nx_D hD) hS (Nat.le_of_ble_eq_true rfl) (Nat.le_of_ble_eq_true rfl) dL_act_170
      · have hok := ip hok hc
        refine lv_iconst (v := (1 : Int32)) hx hb dL_act_165 (by decide) ?_
        refine lv_goto (tgt := 170) hx hb dL_act_166 (by decide) ?_
        have hok := Option.some.inj hok
        subst hok
        exact eAz S hr hlk (by decide) rfl (g7_7, g8_7, g9_7, g10_7, g11_7, g12_7, G9_7, G10_7, G11_7, G12_7) (nx_P hP) (nx_D hD) hS (Nat.le_of_ble_eq_true rfl) (Nat.le_of_ble_eq_true rfl) dL_act_170
    · have hok := iq hok hc
      refine lv_iconst (v := (1 : Int32)) hx hb dL_act_128 (by decide) ?_
      have hok := Option.some.inj hok
      subst hok
      exact eAz S hr hlk (by decide) rfl (g7, g8, g9, g10, g11, g12, G9, G10, G11, G12) (nx_P hP) (nx_D hD) hS (Nat.le_of_ble_eq_true rfl) (Nat.le_of_ble_eq_true rfl) dL_act_129
  unfold p_L_act at hok
  refine lv_aload_n hx hb dL_act_0 rfl (lv_at hl 1 rfl) ?_
  refine va_get (D := (dC, dI)) (ci := 5) (v := .ref g9) (C := RX5) (T := TX5) (N := 14) hx hb hts inX5 hown hK hP 28 rfl rfl 9 (by decide) (hts _ qf_L_9) (fun _ h9 => h9) rfl dL_act_1 ?_
  refine va_alen (v := (nI uG.2.2.2.2.2.2.2.2.2.1.1)) hx hb hK hP 31 2 rfl rfl rfl dL_act_4 ?_
  refine lv_istore_n (lv' := [(3, .int (nI uG.2.2.2.2.2.2.2.2.2.1.1)), (0, .ref n0), (1, .ref g0), (2, .int a3)]) hx hb dL_act_5 rfl hl (by decide) rfl (fun ls hl => ?_)
  refine lv_iload_n hx hb dL_act_6 rfl (lv_at hl 3 rfl) ?_
  refine lv_iconst (v := (1 : Int32)) hx hb dL_act_7 (by decide) ?_
  refine lv_ishr hx hb dL_act_8 ?_
  refine lv_iload_n hx hb dL_act_9 rfl (lv_at hl 0 rfl) ?_
  obtain ⟨v1, hc1, hok⟩ := bd_some hok
  refine cRSi [.int (a3 >>> ((1 : Int32) &&& 31)), .int (nI uG.2.2.2.2.2.2.2.2.2.1.1)] S hK2 va_Pnil (c_L_below l dC dI cI cZ (a3 >>> ((1 : Int32) &&& 31)) (nI uG.2.2.2.2.2.2.2.2.2.1.1) hc1) (lw_S qm_L_15 qt_L_below qn_L qc_L_below) hd_L_below ⟨rfl, rfl⟩ ⟨Nat.le_of_ble_eq_true rfl, Nat.le_of_ble_eq_true rfl⟩ ⟨Nat.le_of_ble_eq_true rfl, Nat.le_of_ble_eq_true rfl⟩ rfl hl.1 (Nat.le_of_ble_eq_true rfl) rfl dL_act_10 ?_
  refine lv_istore (lv' := [(4, .int v1), (3, .int (nI uG.2.2.2.2.2.2.2.2.2.1.1)), (0, .ref n0), (1, .ref g0), (2, .int a3)]) hx hb dL_act_13 hl (by decide) rfl (fun ls hl => ?_)
  refine lv_iload_n hx hb dL_act_15 rfl (lv_at hl 4 rfl) ?_
  refine lv_bipush (v := (9 : Int32)) hx hb dL_act_16 (by decide) ?_
  refine lv_ishr hx hb dL_act_18 ?_
  refine lv_bipush (v := (24 : Int32)) hx hb dL_act_19 (by decide) ?_
  obtain ⟨v2, hc2, hok⟩ := bd_some hok
  refine cRSi [.int (a3 >>> ((9 : Int32) &&& 31)), .int (24 : Int32)] S hK2 va_Pnil (c_L_below l dC dI cI cZ (a3 >>> ((9 : Int32) &&& 31)) (24 : Int32) hc2) (lw_S qm_L_15 qt_L_below qn_L qc_L_below) hd_L_below ⟨rfl, rfl⟩ ⟨Nat.le_of_ble_eq_true rfl, Nat.le_of_ble_eq_true rfl⟩ ⟨Nat.le_of_ble_eq_true rfl, Nat.le_of_ble_eq_true rfl⟩ rfl hl.1 (Nat.le_of_ble_eq_true rfl) rfl dL_act_21 ?_
  by_cases e : v2.toInt < 0 ∨ 19 < v2.toInt
  · have hok := ip hok e
    refine lv_tableOut (tgt := 595) hx hb dL_act_24 e rfl ?_
    exact J595 g7 g8 g9 g10 g11 g12 G9 G10 G11 G12 uH uC uI uM uG a3 _ _ hP hD hS _ (lv_sub hl [2, 3, 4] rfl) hok
  · have hok := iq hok e
    have h1 : ¬ v2.toInt < 0 := fun q => e (Or.inl q)
    have h2 : ¬ 19 < v2.toInt := fun q => e (Or.inr q)
    by_cases e0 : v2 = 0
    · have hok := ip hok e0
      refine lv_tableIn (off := 96) (tgt := 120) hx hb dL_act_24 h1 h2 (by rw [e0]; rfl) rfl ?_
      exact J120 g7 g8 g9 g10 g11 g12 G9 G10 G11 G12 uH uC uI uM uG a3 _ _ hP hD hS _ (lv_sub hl [2, 3, 4] rfl) hok
    · have hok := iq hok e0
      by_cases e1 : v2 = 1
      · have hok := ip hok e1
        refine lv_tableIn (off := 147) (tgt := 171) hx hb dL_act_24 h1 h2 (by rw [e1]; rfl) rfl ?_
        exact J171 g7 g8 g9 g10 g11 g12 G9 G10 G11 G12 uH uC uI uM uG a3 _ _ hP hD hS _ (lv_sub hl [2, 3, 4] rfl) hok
      · have hok := iq hok e1
        by_cases e2 : v2 = 2
        · have hok := ip hok e2
          refine lv_tableIn (off := 147) (tgt := 171) hx hb dL_act_24 h1 h2 (by rw [e2]; rfl) rfl ?_
          exact J171 g7 g8 g9 g10 g11 g12 G9 G10 G11 G12 uH uC uI uM uG a3 _ _ hP hD hS _ (lv_sub hl [2, 3, 4] rfl) hok
        · have hok := iq hok e2
          by_cases e3 : v2 = 3
          · have hok := ip hok e3
            refine lv_tableIn (off := 199) (tgt := 223) hx hb dL_act_24 h1 h2 (by rw [e3]; rfl) rfl ?_
            exact J223 g7 g8 g9 g10 g11 g12 G9 G10 G11 G12 uH uC uI uM uG a3 _ _ hP hD hS _ (lv_sub hl [2, 3, 4] rfl) hok
          · have hok := iq hok e3
            by_cases e4 : v2 = 4
            · have hok := ip hok e4
              refine lv_tableIn (off := 251) (tgt := 275) hx hb dL_act_24 h1 h2 (by rw [e4]; rfl) rfl ?_
              exact J275 g7 g8 g9 g10 g11 g12 G9 G10 G11 G12 uH uC uI uM uG a3 _ _ hP hD hS _ (lv_sub hl [2, 3, 4] rfl) hok
            · have hok := iq hok e4
              by_cases e5 : v2 = 5
              · have hok := ip hok e5
                refine lv_tableIn (off := 251) (tgt := 275) hx hb dL_act_24 h1 h2 (by rw [e5]; rfl) rfl ?_
                exact J275 g7 g8 g9 g10 g11 g12 G9 G10 G11 G12 uH uC uI uM uG a3 _ _ hP hD hS _ (lv_sub hl [2, 3, 4] rfl) hok
              · have hok := iq hok e5
                by_cases e6 : v2 = 6
                · have hok := ip hok e6
                  refine lv_tableIn (off := 335) (tgt := 359) hx hb dL_act_24 h1 h2 (by rw [e6]; rfl) rfl ?_
                  exact J359 g7 g8 g9 g10 g11 g12 G9 G10 G11 G12 uH uC uI uM uG a3 _ _ hP hD hS _ (lv_sub hl [2, 3, 4] rfl) hok
                · have hok := iq hok e6
                  by_cases e7 : v2 = 7
                  · have hok := ip hok e7
                    refine lv_tableIn (off := 420) (tgt := 444) hx hb dL_act_24 h1 h2 (by rw [e7]; rfl) rfl ?_
                    exact J444 g7 g8 g9 g10 g11 g12 G9 G10 G11 G12 uH uC uI uM uG a3 _ _ hP hD hS _ (lv_sub hl [2, 3, 4] rfl) hok
                  · have hok := iq hok e7
                    by_cases e8 : v2 = 8
                    · have hok := ip hok e8
                      refine lv_tableIn (off := 461) (tgt := 485) hx hb dL_act_24 h1 h2 (by rw [e8]; rfl) rfl ?_
                      exact J485 g7 g8 g9 g10 g11 g12 G9 G10 G11 G12 uH uC uI uM uG a3 v1 _ _ hP hD hS _ (lv_sub hl [2, 3, 4, 0] rfl) hok
                    · have hok := iq hok e8
                      by_cases e9 : v2 = 9
                      · have hok := ip hok e9
                        refine lv_tableIn (off := 461) (tgt := 485) hx hb dL_act_24 h1 h2 (by rw [e9]; rfl) rfl ?_
                        exact J485 g7 g8 g9 g10 g11 g12 G9 G10 G11 G12 uH uC uI uM uG a3 v1 _ _ hP hD hS _ (lv_sub hl [2, 3, 4, 0] rfl) hok
                      · have hok := iq hok e9
                        by_cases e10 : v2 = 10
                        · have hok := ip hok e10
                          refine lv_tableIn (off := 461) (tgt := 485) hx hb dL_act_24 h1 h2 (by rw [e10]; rfl) rfl ?_
                          exact J485 g7 g8 g9 g10 g11 g12 G9 G10 G11 G12 uH uC uI uM uG a3 v1 _ _ hP hD hS _ (lv_sub hl [2, 3, 4, 0] rfl) hok
                        · have hok := iq hok e10
                          by_cases e11 : v2 = 11
                          · have hok := ip hok e11
                            refine lv_tableIn (off := 461) (tgt := 485) hx hb dL_act_24 h1 h2 (by rw [e11]; rfl) rfl ?_
                            exact J485 g7 g8 g9 g10 g11 g12 G9 G10 G11 G12 uH uC uI uM uG a3 v1 _ _ hP hD hS _ (lv_sub hl [2, 3, 4, 0] rfl) hok
                          · have hok := iq hok e11
                            by_cases e12 : v2 = 12
                            · have hok := ip hok e12
                              refine lv_tableIn (off := 461) (tgt := 485) hx hb dL_act_24 h1 h2 (by rw [e12]; rfl) rfl ?_
                              exact J485 g7 g8 g9 g10 g11 g12 G9 G10 G11 G12 uH uC uI uM uG a3 v1 _ _ hP hD hS _ (lv_sub hl [2, 3, 4, 0] rfl) hok
                            · have hok := iq hok e12
                              by_cases e13 : v2 = 13
                              · have hok := ip hok e13
                                refine lv_tableIn (off := 461) (tgt := 485) hx hb dL_act_24 h1 h2 (by rw [e13]; rfl) rfl ?_
                                exact J485 g7 g8 g9 g10 g11 g12 G9 G10 G11 G12 uH uC uI uM uG a3 v1 _ _ hP hD hS _ (lv_sub hl [2, 3, 4, 0] rfl) hok
                              · have hok := iq hok e13
                                by_cases e14 : v2 = 14
                                · have hok := ip hok e14
                                  refine lv_tableIn (off := 529) (tgt := 553) hx hb dL_act_24 h1 h2 (by rw [e14]; rfl) rfl ?_
                                  exact J553 g7 g8 g9 g10 g11 g12 G9 G10 G11 G12 uH uC uI uM uG v1 _ _ hP hD hS _ (lv_sub hl [2, 3, 0] rfl) hok
                                · have hok := iq hok e14
                                  by_cases e15 : v2 = 15
                                  · have hok := ip hok e15
                                    refine lv_tableIn (off := 529) (tgt := 553) hx hb dL_act_24 h1 h2 (by rw [e15]; rfl) rfl ?_
                                    exact J553 g7 g8 g9 g10 g11 g12 G9 G10 G11 G12 uH uC uI uM uG v1 _ _ hP hD hS _ (lv_sub hl [2, 3, 0] rfl) hok
                                  · have hok := iq hok e15
                                    by_cases e16 : v2 = 16
                                    · have hok := ip hok e16
                                      refine lv_tableIn (off := 529) (tgt := 553) hx hb dL_act_24 h1 h2 (by rw [e16]; rfl) rfl ?_
                                      exact J553 g7 g8 g9 g10 g11 g12 G9 G10 G11 G12 uH uC uI uM uG v1 _ _ hP hD hS _ (lv_sub hl [2, 3, 0] rfl) hok
                                    · have hok := iq hok e16
                                      by_cases e17 : v2 = 17
                                      · have hok := ip hok e17
                                        refine lv_tableIn (off := 529) (tgt := 553) hx hb dL_act_24 h1 h2 (by rw [e17]; rfl) rfl ?_
                                        exact J553 g7 g8 g9 g10 g11 g12 G9 G10 G11 G12 uH uC uI uM uG v1 _ _ hP hD hS _ (lv_sub hl [2, 3, 0] rfl) hok
                                      · have hok := iq hok e17
                                        by_cases e18 : v2 = 18
                                        · have hok := ip hok e18
                                          refine lv_tableIn (off := 529) (tgt := 553) hx hb dL_act_24 h1 h2 (by rw [e18]; rfl) rfl ?_
                                          exact J553 g7 g8 g9 g10 g11 g12 G9 G10 G11 G12 uH uC uI uM uG v1 _ _ hP hD hS _ (lv_sub hl [2, 3, 0] rfl) hok
                                        · have hok := iq hok e18
                                          by_cases e19 : v2 = 19
                                          · have hok := ip hok e19
                                            refine lv_tableIn (off := 529) (tgt := 553) hx hb dL_act_24 h1 h2 (by rw [e19]; rfl) rfl ?_
                                            exact J553 g7 g8 g9 g10 g11 g12 G9 G10 G11 G12 uH uC uI uM uG v1 _ _ hP hD hS _ (lv_sub hl [2, 3, 0] rfl) hok
                                          · have hok := iq hok e19
                                            cases hok
