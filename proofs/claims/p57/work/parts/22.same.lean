def p_X5_isSame_J920  (uH : tX1) (uC : tX0) (uT : tX0) (uI : tX2) (uM : tX3) (uG : tX5) (s920_0 : UInt64) (s920_1 : UInt64) : Option Int32 :=
  if (Op.cmpValue (FP.dcmp s920_1 s920_0) CmpOp.l) = 0 then
    some (1 : Int32)
  else
    some (0 : Int32)
def p_X5_isSame_J819 (rec695 : tX1 → tX0 → tX0 → tX2 → tX3 → tX5 → Int32 → Int32 → Int32 → Int32 → Int32 → Int32 → Int32 → Option Int32) (uH : tX1) (uC : tX0) (uT : tX0) (uI : tX2) (uM : tX3) (uG : tX5) (l819_4 : Int32) (l819_5 : Int32) (l819_6 : Int32) (l819_7 : Int32) (l819_8 : Int32) (l819_9 : Int32) (l819_10 : Int32) (l819_11 : Int32) (l819_12 : Int32) : Option Int32 :=
  bd (p_X4_gradesBy uH uC uT uI uM l819_10) (fun v86 =>
  if v86 = l819_11 then
    bd (p_X4_favouriteOf uH uC uT uI uM l819_10) (fun v87 =>
    if v87 = l819_12 then
      rec695 uH uC uT uI uM uG l819_4 l819_5 l819_6 l819_7 l819_8 l819_9 (l819_10 + 1)
    else
      some (0 : Int32))
  else
    some (0 : Int32))
def p_X5_isSame_J783 (rec695 : tX1 → tX0 → tX0 → tX2 → tX3 → tX5 → Int32 → Int32 → Int32 → Int32 → Int32 → Int32 → Int32 → Option Int32) (rec714 : tX1 → tX0 → tX0 → tX2 → tX3 → tX5 → Int32 → Int32 → Int32 → Int32 → Int32 → Int32 → Int32 → Int32 → Int32 → Int32 → Option Int32) (uH : tX1) (uC : tX0) (uT : tX0) (uI : tX2) (uM : tX3) (uG : tX5) (l783_4 : Int32) (l783_5 : Int32) (l783_6 : Int32) (l783_7 : Int32) (l783_8 : Int32) (l783_9 : Int32) (l783_10 : Int32) (l783_11 : Int32) (l783_12 : Int32) (l783_13 : Int32) (l783_14 : Int32) : Option Int32 :=
  bd (p_X4_grade uH uC uT uI uM l783_10 l783_13) (fun v88 =>
  if v88 = l783_14 then
    rec714 uH uC uT uI uM uG l783_4 l783_5 l783_6 l783_7 l783_8 l783_9 l783_10 l783_11 l783_12 (l783_13 + 1)
  else
    some (0 : Int32))
def p_X5_isSame_J779 (rec695 : tX1 → tX0 → tX0 → tX2 → tX3 → tX5 → Int32 → Int32 → Int32 → Int32 → Int32 → Int32 → Int32 → Option Int32) (rec714 : tX1 → tX0 → tX0 → tX2 → tX3 → tX5 → Int32 → Int32 → Int32 → Int32 → Int32 → Int32 → Int32 → Int32 → Int32 → Int32 → Option Int32) (uH : tX1) (uC : tX0) (uT : tX0) (uI : tX2) (uM : tX3) (uG : tX5) (l779_4 : Int32) (l779_5 : Int32) (l779_6 : Int32) (l779_7 : Int32) (l779_8 : Int32) (l779_9 : Int32) (l779_10 : Int32) (l779_11 : Int32) (l779_13 : Int32) (l779_14 : Int32) : Option Int32 :=
  p_X5_isSame_J783 rec695 rec714 uH uC uT uI uM uG l779_4 l779_5 l779_6 l779_7 l779_8 l779_9 l779_10 l779_11 l779_13 l779_13 l779_14
def p_X5_isSame_L714 (rec695 : tX1 → tX0 → tX0 → tX2 → tX3 → tX5 → Int32 → Int32 → Int32 → Int32 → Int32 → Int32 → Int32 → Option Int32) : Nat → tX1 → tX0 → tX0 → tX2 → tX3 → tX5 → Int32 → Int32 → Int32 → Int32 → Int32 → Int32 → Int32 → Int32 → Int32 → Int32 → Option Int32
  | 0, _, _, _, _, _, _, _, _, _, _, _, _, _, _, _, _ => none
  | n + 1, uH, uC, uT, uI, uM, uG, l714_4, l714_5, l714_6, l714_7, l714_8, l714_9, l714_10, l714_11, l714_12, l714_13 =>
    if (nI uG.2.2.2.2.2.2.2.2.2.2.2.2.1.1) ≤ l714_13 then
      if l714_11 ≤ l714_9 then
        p_X5_isSame_J819 rec695 uH uC uT uI uM uG l714_4 l714_5 l714_6 l714_7 l714_8 l714_9 l714_10 l714_11 l714_12
      else
        p_X5_isSame_J819 rec695 uH uC uT uI uM uG l714_4 l714_5 l714_6 l714_7 l714_10 l714_11 l714_10 l714_11 l714_12
    else
      gd l714_10 uG.2.2.2.2.2.2.2.2.2.2.2.1.1 (
      gd l714_13 uG.2.2.2.2.2.2.2.2.2.2.2.2.1.1 (
      bd (p_X5_grade (uG.2.2.2.2.2.2.2.2.2.2.2.1.2 l714_10.toNatClampNeg).1 (uG.2.2.2.2.2.2.2.2.2.2.2.1.2 l714_10.toNatClampNeg).2 (uG.2.2.2.2.2.2.2.2.2.2.2.2.1.2 l714_13.toNatClampNeg).1 (uG.2.2.2.2.2.2.2.2.2.2.2.2.1.2 l714_13.toNatClampNeg).2) (fun v74 =>
      if l714_12 < 0 then
        p_X5_isSame_J779 rec695 (p_X5_isSame_L714 rec695 n) uH uC uT uI uM uG l714_4 l714_5 l714_6 l714_7 l714_8 l714_9 l714_10 (l714_11 + v74) l714_13 v74
      else
        gd l714_12 uG.2.2.2.2.2.2.2.2.2.2.2.2.1.1 (
        bd (p_X5_grade (uG.2.2.2.2.2.2.2.2.2.2.2.1.2 l714_10.toNatClampNeg).1 (uG.2.2.2.2.2.2.2.2.2.2.2.1.2 l714_10.toNatClampNeg).2 (uG.2.2.2.2.2.2.2.2.2.2.2.2.1.2 l714_12.toNatClampNeg).1 (uG.2.2.2.2.2.2.2.2.2.2.2.2.1.2 l714_12.toNatClampNeg).2) (fun v76 =>
        if v74 ≤ v76 then
          p_X5_isSame_J783 rec695 (p_X5_isSame_L714 rec695 n) uH uC uT uI uM uG l714_4 l714_5 l714_6 l714_7 l714_8 l714_9 l714_10 (l714_11 + v74) l714_12 l714_13 v74
        else
          p_X5_isSame_J779 rec695 (p_X5_isSame_L714 rec695 n) uH uC uT uI uM uG l714_4 l714_5 l714_6 l714_7 l714_8 l714_9 l714_10 (l714_11 + v74) l714_13 v74)))))
def p_X5_isSame_L695  : Nat → tX1 → tX0 → tX0 → tX2 → tX3 → tX5 → Int32 → Int32 → Int32 → Int32 → Int32 → Int32 → Int32 → Option Int32
  | 0, _, _, _, _, _, _, _, _, _, _, _, _, _ => none
  | n + 1, uH, uC, uT, uI, uM, uG, l695_4, l695_5, l695_6, l695_7, l695_8, l695_9, l695_10 =>
    if (nI uG.2.2.2.2.2.2.2.2.2.2.2.1.1) ≤ l695_10 then
      bd (p_X4_mostThrilling uH uC uT uI uM) (fun v51 =>
      if v51 = l695_4 then
        bd (p_X4_longestWait uH uC uT uI uM) (fun v52 =>
        if v52 = l695_5 then
          bd (p_X4_climbs uH uC uT uI uM) (fun v53 =>
          if v53 = l695_6 then
            bd (p_X4_warmest uH uC uT uI uM) (fun v54 =>
            if v54 = l695_7 then
              bd (p_X4_kindest uH uC uT uI uM) (fun v55 =>
              if v55 = l695_8 then
                bd (p_X4_meanWarmth uH uC uT uI uM) (fun v56 =>
                bd (p_X5_subscribers uG) (fun v57 =>
                if v57 = 0 then
                  p_X5_isSame_J920 uH uC uT uI uM uG FP.dconst0 v56
                else
                  bd (p_X5_warmth uG) (fun v58 =>
                  bd (p_X5_subscribers uG) (fun v59 =>
                  gq ((FP.ddiv (FP.i2d v58) (FP.i2d v59)) &&& 0x7fffffffffffffff ≤ 0x7ff0000000000000) (
                  p_X5_isSame_J920 uH uC uT uI uM uG (FP.ddiv (FP.i2d v58) (FP.i2d v59)) v56)))))
              else
                some (0 : Int32))
            else
              some (0 : Int32))
          else
            some (0 : Int32))
        else
          some (0 : Int32))
      else
        some (0 : Int32))
    else
      p_X5_isSame_L714 (p_X5_isSame_L695 n) 200 uH uC uT uI uM uG l695_4 l695_5 l695_6 l695_7 l695_8 l695_9 l695_10 (0 : Int32) (-1 : Int32) (0 : Int32)
def p_X5_isSame_J675 (rec573 : tX1 → tX0 → tX0 → tX2 → tX3 → tX5 → Int32 → Int32 → Int32 → Int32 → Int32 → Option Int32) (uH : tX1) (uC : tX0) (uT : tX0) (uI : tX2) (uM : tX3) (uG : tX5) (l675_4 : Int32) (l675_5 : Int32) (l675_6 : Int32) (l675_7 : Int32) (l675_8 : Int32) (s675_0 : Int32) (s675_1 : Int32) : Option Int32 :=
  if s675_1 = s675_0 then
    rec573 uH uC uT uI uM uG l675_4 l675_5 l675_6 l675_7 (l675_8 + 1)
  else
    some (0 : Int32)
def p_X5_isSame_J625 (rec573 : tX1 → tX0 → tX0 → tX2 → tX3 → tX5 → Int32 → Int32 → Int32 → Int32 → Int32 → Option Int32) (uH : tX1) (uC : tX0) (uT : tX0) (uI : tX2) (uM : tX3) (uG : tX5) (w625_9 : Nat) (l625_4 : Int32) (l625_5 : Int32) (l625_6 : Int32) (l625_7 : Int32) (l625_8 : Int32) : Option Int32 :=
  bd (p_X4_tasteOf uH uC uT uI uM l625_8) (fun v61 =>
  gN w625_9 uG.2.2.2.2.2.2.2.2.2.2.1.1 (
  gd (0 : Int32) ((uG.2.2.2.2.2.2.2.2.2.2.1.2 w625_9).1) (
  if v61 = ((uG.2.2.2.2.2.2.2.2.2.2.1.2 w625_9).2 0) then
    bd (p_X4_warmthOf uH uC uT uI uM l625_8) (fun v64 =>
    gd (1 : Int32) ((uG.2.2.2.2.2.2.2.2.2.2.1.2 w625_9).1) (
    gd (2 : Int32) ((uG.2.2.2.2.2.2.2.2.2.2.1.2 w625_9).1) (
    if v64 = (((uG.2.2.2.2.2.2.2.2.2.2.1.2 w625_9).2 1) * ((uG.2.2.2.2.2.2.2.2.2.2.1.2 w625_9).2 2)) then
      bd (p_X4_isSubscriber uH uC uT uI uM l625_8) (fun v67 =>
      if ((uG.2.2.2.2.2.2.2.2.2.2.1.2 w625_9).2 2) = (1 : Int32) then
        p_X5_isSame_J675 rec573 uH uC uT uI uM uG l625_4 l625_5 l625_6 l625_7 l625_8 (1 : Int32) v67
      else
        p_X5_isSame_J675 rec573 uH uC uT uI uM uG l625_4 l625_5 l625_6 l625_7 l625_8 (0 : Int32) v67)
    else
      some (0 : Int32))))
  else
    some (0 : Int32))))
def p_X5_isSame_J621 (rec573 : tX1 → tX0 → tX0 → tX2 → tX3 → tX5 → Int32 → Int32 → Int32 → Int32 → Int32 → Option Int32) (uH : tX1) (uC : tX0) (uT : tX0) (uI : tX2) (uM : tX3) (uG : tX5) (w621_9 : Nat) (l621_4 : Int32) (l621_5 : Int32) (l621_6 : Int32) (l621_8 : Int32) : Option Int32 :=
  p_X5_isSame_J625 rec573 uH uC uT uI uM uG w621_9 l621_4 l621_5 l621_6 l621_8 l621_8
def p_X5_isSame_L573  : Nat → tX1 → tX0 → tX0 → tX2 → tX3 → tX5 → Int32 → Int32 → Int32 → Int32 → Int32 → Option Int32
  | 0, _, _, _, _, _, _, _, _, _, _, _ => none
  | n + 1, uH, uC, uT, uI, uM, uG, l573_4, l573_5, l573_6, l573_7, l573_8 =>
    if (nI uG.2.2.2.2.2.2.2.2.2.2.1.1) ≤ l573_8 then
      p_X5_isSame_L695 200 uH uC uT uI uM uG l573_4 l573_5 l573_6 l573_7 (-1 : Int32) (-1 : Int32) (0 : Int32)
    else
      gd l573_8 uG.2.2.2.2.2.2.2.2.2.2.1.1 (
      gd (2 : Int32) ((uG.2.2.2.2.2.2.2.2.2.2.1.2 l573_8.toNatClampNeg).1) (
      if ((uG.2.2.2.2.2.2.2.2.2.2.1.2 l573_8.toNatClampNeg).2 2) = (1 : Int32) then
        if l573_7 < 0 then
          p_X5_isSame_J621 (p_X5_isSame_L573 n) uH uC uT uI uM uG l573_8.toNatClampNeg l573_4 l573_5 l573_6 l573_8
        else
          gd (1 : Int32) ((uG.2.2.2.2.2.2.2.2.2.2.1.2 l573_8.toNatClampNeg).1) (
          gd l573_7 uG.2.2.2.2.2.2.2.2.2.2.1.1 (
          gd (1 : Int32) ((uG.2.2.2.2.2.2.2.2.2.2.1.2 l573_7.toNatClampNeg).1) (
          if ((uG.2.2.2.2.2.2.2.2.2.2.1.2 l573_8.toNatClampNeg).2 1) ≤ ((uG.2.2.2.2.2.2.2.2.2.2.1.2 l573_7.toNatClampNeg).2 1) then
            p_X5_isSame_J625 (p_X5_isSame_L573 n) uH uC uT uI uM uG l573_8.toNatClampNeg l573_4 l573_5 l573_6 l573_7 l573_8
          else
            p_X5_isSame_J621 (p_X5_isSame_L573 n) uH uC uT uI uM uG l573_8.toNatClampNeg l573_4 l573_5 l573_6 l573_8)))
      else
        p_X5_isSame_J625 (p_X5_isSame_L573 n) uH uC uT uI uM uG l573_8.toNatClampNeg l573_4 l573_5 l573_6 l573_7 l573_8))
def p_X5_isSame_J507 (rec409 : tX1 → tX0 → tX0 → tX2 → tX3 → tX5 → Int32 → Int32 → Int32 → Int32 → Option Int32) (uH : tX1) (uC : tX0) (uT : tX0) (uI : tX2) (uM : tX3) (uG : tX5) (w507_8 : Nat) (l507_4 : Int32) (l507_5 : Int32) (l507_6 : Int32) (l507_7 : Int32) : Option Int32 :=
  bd (p_X4_floorIn uH uC uT uI uM l507_7) (fun v77 =>
  gN w507_8 uG.2.2.2.2.2.2.2.2.2.2.2.2.1.1 (
  gd (0 : Int32) ((uG.2.2.2.2.2.2.2.2.2.2.2.2.1.2 w507_8).1) (
  if v77 = ((uG.2.2.2.2.2.2.2.2.2.2.2.2.1.2 w507_8).2 0) then
    bd (p_X4_paragraphIn uH uC uT uI uM l507_7) (fun v80 =>
    gd (1 : Int32) ((uG.2.2.2.2.2.2.2.2.2.2.2.2.1.2 w507_8).1) (
    if v80 = ((uG.2.2.2.2.2.2.2.2.2.2.2.2.1.2 w507_8).2 1) then
      bd (p_X4_thrillIn uH uC uT uI uM l507_7) (fun v82 =>
      gd (4 : Int32) ((uG.2.2.2.2.2.2.2.2.2.2.2.2.1.2 w507_8).1) (
      if v82 = ((uG.2.2.2.2.2.2.2.2.2.2.2.2.1.2 w507_8).2 4) then
        bd (p_X4_hourIn uH uC uT uI uM l507_7) (fun v84 =>
        gd (5 : Int32) ((uG.2.2.2.2.2.2.2.2.2.2.2.2.1.2 w507_8).1) (
        if v84 = ((uG.2.2.2.2.2.2.2.2.2.2.2.2.1.2 w507_8).2 5) then
          rec409 uH uC uT uI uM uG l507_4 l507_5 l507_6 (l507_7 + 1)
        else
          some (0 : Int32)))
      else
        some (0 : Int32)))
    else
      some (0 : Int32)))
  else
    some (0 : Int32))))
def p_X5_isSame_J481 (rec409 : tX1 → tX0 → tX0 → tX2 → tX3 → tX5 → Int32 → Int32 → Int32 → Int32 → Option Int32) (uH : tX1) (uC : tX0) (uT : tX0) (uI : tX2) (uM : tX3) (uG : tX5) (w481_8 : Nat) (l481_4 : Int32) (l481_5 : Int32) (l481_6 : Int32) (l481_7 : Int32) : Option Int32 :=
  if l481_7 ≤ 0 then
    p_X5_isSame_J507 rec409 uH uC uT uI uM uG w481_8 l481_4 l481_5 l481_6 l481_7
  else
    gN w481_8 uG.2.2.2.2.2.2.2.2.2.2.2.2.1.1 (
    gd (0 : Int32) ((uG.2.2.2.2.2.2.2.2.2.2.2.2.1.2 w481_8).1) (
    gd (l481_7 - (1 : Int32)) uG.2.2.2.2.2.2.2.2.2.2.2.2.1.1 (
    gd (0 : Int32) ((uG.2.2.2.2.2.2.2.2.2.2.2.2.1.2 ((l481_7 - (1 : Int32)).toNatClampNeg)).1) (
    if ((uG.2.2.2.2.2.2.2.2.2.2.2.2.1.2 w481_8).2 0) ≤ ((uG.2.2.2.2.2.2.2.2.2.2.2.2.1.2 ((l481_7 - (1 : Int32)).toNatClampNeg)).2 0) then
      p_X5_isSame_J507 rec409 uH uC uT uI uM uG w481_8 l481_4 l481_5 l481_6 l481_7
    else
      p_X5_isSame_J507 rec409 uH uC uT uI uM uG w481_8 l481_4 l481_5 (l481_6 + 1) l481_7))))
def p_X5_isSame_J453 (rec409 : tX1 → tX0 → tX0 → tX2 → tX3 → tX5 → Int32 → Int32 → Int32 → Int32 → Option Int32) (uH : tX1) (uC : tX0) (uT : tX0) (uI : tX2) (uM : tX3) (uG : tX5) (w453_8 : Nat) (l453_4 : Int32) (l453_5 : Int32) (l453_6 : Int32) (l453_7 : Int32) : Option Int32 :=
  if l453_7 ≤ 0 then
    p_X5_isSame_J481 rec409 uH uC uT uI uM uG w453_8 l453_4 l453_5 l453_6 l453_7
  else
    gN w453_8 uG.2.2.2.2.2.2.2.2.2.2.2.2.1.1 (
    gd (5 : Int32) ((uG.2.2.2.2.2.2.2.2.2.2.2.2.1.2 w453_8).1) (
    gd (l453_7 - (1 : Int32)) uG.2.2.2.2.2.2.2.2.2.2.2.2.1.1 (
    gd (5 : Int32) ((uG.2.2.2.2.2.2.2.2.2.2.2.2.1.2 ((l453_7 - (1 : Int32)).toNatClampNeg)).1) (
    p_X5_isSame_J481 rec409 uH uC uT uI uM uG w453_8 l453_4 (if l453_5 < (((uG.2.2.2.2.2.2.2.2.2.2.2.2.1.2 w453_8).2 5) - ((uG.2.2.2.2.2.2.2.2.2.2.2.2.1.2 ((l453_7 - (1 : Int32)).toNatClampNeg)).2 5)) then (((uG.2.2.2.2.2.2.2.2.2.2.2.2.1.2 w453_8).2 5) - ((uG.2.2.2.2.2.2.2.2.2.2.2.2.1.2 ((l453_7 - (1 : Int32)).toNatClampNeg)).2 5)) else l453_5) l453_6 l453_7))))
def p_X5_isSame_J449 (rec409 : tX1 → tX0 → tX0 → tX2 → tX3 → tX5 → Int32 → Int32 → Int32 → Int32 → Option Int32) (uH : tX1) (uC : tX0) (uT : tX0) (uI : tX2) (uM : tX3) (uG : tX5) (w449_8 : Nat) (l449_5 : Int32) (l449_6 : Int32) (l449_7 : Int32) : Option Int32 :=
  p_X5_isSame_J453 rec409 uH uC uT uI uM uG w449_8 l449_7 l449_5 l449_6 l449_7
def p_X5_isSame_L409  : Nat → tX1 → tX0 → tX0 → tX2 → tX3 → tX5 → Int32 → Int32 → Int32 → Int32 → Option Int32
  | 0, _, _, _, _, _, _, _, _, _, _ => none
  | n + 1, uH, uC, uT, uI, uM, uG, l409_4, l409_5, l409_6, l409_7 =>
    if (nI uG.2.2.2.2.2.2.2.2.2.2.2.2.1.1) ≤ l409_7 then
      p_X5_isSame_L573 200 uH uC uT uI uM uG l409_4 l409_5 l409_6 (-1 : Int32) (0 : Int32)
    else
      gd l409_7 uG.2.2.2.2.2.2.2.2.2.2.2.2.1.1 (
      if l409_4 < 0 then
        p_X5_isSame_J449 (p_X5_isSame_L409 n) uH uC uT uI uM uG l409_7.toNatClampNeg l409_5 l409_6 l409_7
      else
        gd (4 : Int32) ((uG.2.2.2.2.2.2.2.2.2.2.2.2.1.2 l409_7.toNatClampNeg).1) (
        gd l409_4 uG.2.2.2.2.2.2.2.2.2.2.2.2.1.1 (
        gd (4 : Int32) ((uG.2.2.2.2.2.2.2.2.2.2.2.2.1.2 l409_4.toNatClampNeg).1) (
        if ((uG.2.2.2.2.2.2.2.2.2.2.2.2.1.2 l409_7.toNatClampNeg).2 4) ≤ ((uG.2.2.2.2.2.2.2.2.2.2.2.2.1.2 l409_4.toNatClampNeg).2 4) then
          p_X5_isSame_J453 (p_X5_isSame_L409 n) uH uC uT uI uM uG l409_7.toNatClampNeg l409_4 l409_5 l409_6 l409_7
        else
          p_X5_isSame_J449 (p_X5_isSame_L409 n) uH uC uT uI uM uG l409_7.toNatClampNeg l409_5 l409_6 l409_7))))
def p_X5_isSame_L353  : Nat → tX1 → tX0 → tX0 → tX2 → tX3 → tX5 → (Nat → Int32) → Int32 → Option Int32
  | 0, _, _, _, _, _, _, _, _ => none
  | n + 1, uH, uC, uT, uI, uM, uG, f353_0, l353_4 =>
    if (8 : Int32) ≤ l353_4 then
      p_X5_isSame_L409 200 uH uC uT uI uM uG (-1 : Int32) (0 : Int32) (0 : Int32) (0 : Int32)
    else
      bd (p_X4_isForbidden uH uC uT uI uM l353_4) (fun v25 =>
      gd l353_4 8 (
      if v25 = (uG.2.2.2.2.2.2.2.2.1 l353_4.toNatClampNeg) then
        bd (p_X4_toCome uH uC uT uI uM l353_4) (fun v27 =>
        if v27 = (f353_0 l353_4.toNatClampNeg) then
          (p_X5_isSame_L353 n) uH uC uT uI uM uG f353_0 (l353_4 + 1)
        else
          some (0 : Int32))
      else
        some (0 : Int32)))
def p_X5_isSame_L265 (rec170 : tX1 → tX0 → tX0 → tX2 → tX3 → tX5 → (Nat → Int32) → Int32 → Int32 → Option Int32) : Nat → tX1 → tX0 → tX0 → tX2 → tX3 → tX5 → (Nat → Int32) → Nat → Int32 → Int32 → Int32 → Int32 → Option Int32
  | 0, _, _, _, _, _, _, _, _, _, _, _, _ => none
  | n + 1, uH, uC, uT, uI, uM, uG, f265_0, w265_5, l265_2, l265_4, l265_6, l265_7 =>
    if l265_6 ≤ l265_7 then
      rec170 uH uC uT uI uM uG f265_0 l265_2 (l265_4 + 1)
    else
      bd (p_X4_topicOf uH uC uT uI uM l265_4 l265_7) (fun v35 =>
      gN w265_5 uG.2.2.2.2.2.2.2.2.2.1.1 (
      gd ((2 : Int32) + ((2 : Int32) * l265_7)) ((uG.2.2.2.2.2.2.2.2.2.1.2 w265_5).1) (
      if v35 = ((uG.2.2.2.2.2.2.2.2.2.1.2 w265_5).2 ((2 : Int32) + ((2 : Int32) * l265_7)).toNatClampNeg) then
        bd (p_X4_thrillOf uH uC uT uI uM l265_4 l265_7) (fun v38 =>
        gd ((3 : Int32) + ((2 : Int32) * l265_7)) ((uG.2.2.2.2.2.2.2.2.2.1.2 w265_5).1) (
        if v38 = ((uG.2.2.2.2.2.2.2.2.2.1.2 w265_5).2 ((3 : Int32) + ((2 : Int32) * l265_7)).toNatClampNeg) then
          gd (0 : Int32) ((uG.2.2.2.2.2.2.2.2.2.1.2 w265_5).1) (
          if l265_7 < ((uG.2.2.2.2.2.2.2.2.2.1.2 w265_5).2 0) then
            (p_X5_isSame_L265 rec170 n) uH uC uT uI uM uG f265_0 w265_5 l265_2 l265_4 l265_6 (l265_7 + 1)
          else
            gd ((uG.2.2.2.2.2.2.2.2.2.1.2 w265_5).2 ((2 : Int32) + ((2 : Int32) * l265_7)).toNatClampNeg) 8 (
            (p_X5_isSame_L265 rec170 n) uH uC uT uI uM uG (upd f265_0 ((uG.2.2.2.2.2.2.2.2.2.1.2 w265_5).2 ((2 : Int32) + ((2 : Int32) * l265_7)).toNatClampNeg).toNatClampNeg ((f265_0 ((uG.2.2.2.2.2.2.2.2.2.1.2 w265_5).2 ((2 : Int32) + ((2 : Int32) * l265_7)).toNatClampNeg).toNatClampNeg) + (1 : Int32))) w265_5 l265_2 l265_4 l265_6 (l265_7 + 1)))
        else
          some (0 : Int32)))
      else
        some (0 : Int32))))
def p_X5_isSame_J244 (rec170 : tX1 → tX0 → tX0 → tX2 → tX3 → tX5 → (Nat → Int32) → Int32 → Int32 → Option Int32) (uH : tX1) (uC : tX0) (uT : tX0) (uI : tX2) (uM : tX3) (uG : tX5) (f244_0 : (Nat → Int32)) (w244_5 : Nat) (l244_2 : Int32) (l244_4 : Int32) (l244_6 : Int32) (s244_0 : Int32) (s244_1 : Int32) : Option Int32 :=
  if s244_1 = s244_0 then
    bd (p_X4_cutOn uH uC uT uI uM l244_4) (fun v28 =>
    gN w244_5 uG.2.2.2.2.2.2.2.2.2.1.1 (
    gd (1 : Int32) ((uG.2.2.2.2.2.2.2.2.2.1.2 w244_5).1) (
    if v28 = ((uG.2.2.2.2.2.2.2.2.2.1.2 w244_5).2 1) then
      p_X5_isSame_L265 rec170 200 uH uC uT uI uM uG f244_0 w244_5 l244_2 l244_4 l244_6 (0 : Int32)
    else
      some (0 : Int32))))
  else
    some (0 : Int32)
def p_X5_isSame_L170  : Nat → tX1 → tX0 → tX0 → tX2 → tX3 → tX5 → (Nat → Int32) → Int32 → Int32 → Option Int32
  | 0, _, _, _, _, _, _, _, _, _ => none
  | n + 1, uH, uC, uT, uI, uM, uG, f170_0, l170_2, l170_4 =>
    if l170_2 ≤ l170_4 then
      p_X5_isSame_L353 200 uH uC uT uI uM uG f170_0 (0 : Int32)
    else
      gd l170_4 uG.2.2.2.2.2.2.2.2.2.1.1 (
      bd (p_X4_isCalled uH uC uT uI uM l170_4) (fun v20 =>
      gd l170_4 uG.2.2.2.2.2.2.2.1.1 (
      if v20 = (uG.2.2.2.2.2.2.2.1.2 l170_4.toNatClampNeg) then
        bd (p_X4_paragraphs uH uC uT uI uM l170_4) (fun v22 =>
        if v22 = (((nI (uG.2.2.2.2.2.2.2.2.2.1.2 l170_4.toNatClampNeg).1) - (2 : Int32)) / (2 : Int32)) then
          bd (p_X4_nextParagraph uH uC uT uI uM l170_4) (fun v23 =>
          gd (0 : Int32) ((uG.2.2.2.2.2.2.2.2.2.1.2 l170_4.toNatClampNeg).1) (
          if ((uG.2.2.2.2.2.2.2.2.2.1.2 l170_4.toNatClampNeg).2 0) = (((nI (uG.2.2.2.2.2.2.2.2.2.1.2 l170_4.toNatClampNeg).1) - (2 : Int32)) / (2 : Int32)) then
            p_X5_isSame_J244 (p_X5_isSame_L170 n) uH uC uT uI uM uG f170_0 l170_4.toNatClampNeg l170_2 l170_4 (((nI (uG.2.2.2.2.2.2.2.2.2.1.2 l170_4.toNatClampNeg).1) - (2 : Int32)) / (2 : Int32)) (-1 : Int32) v23
          else
            p_X5_isSame_J244 (p_X5_isSame_L170 n) uH uC uT uI uM uG f170_0 l170_4.toNatClampNeg l170_2 l170_4 (((nI (uG.2.2.2.2.2.2.2.2.2.1.2 l170_4.toNatClampNeg).1) - (2 : Int32)) / (2 : Int32)) ((uG.2.2.2.2.2.2.2.2.2.1.2 l170_4.toNatClampNeg).2 0) v23))
        else
          some (0 : Int32))
      else
        some (0 : Int32))))
def p_X5_isSame (uH : tX1) (uC : tX0) (uT : tX0) (uI : tX2) (uM : tX3) (uG : tX5) : Option Int32 :=
  bd (p_X4_floors uH uC uT uI uM) (fun v1 =>
  if v1 = (nI uG.2.2.2.2.2.2.2.2.2.1.1) then
    bd (p_X4_hours uH uC uT uI uM) (fun v2 =>
    if v2 = uG.1 then
      bd (p_X4_liftAt uH uC uT uI uM) (fun v3 =>
      if v3 = uG.2.1 then
        bd (p_X4_goes uH uC uT uI uM) (fun v4 =>
        if v4 = uG.2.2.1 then
          bd (p_X4_calls uH uC uT uI uM) (fun v5 =>
          bd (p_X5_calls uG) (fun v6 =>
          if v5 = v6 then
            bd (p_X4_stuckFor uH uC uT uI uM) (fun v7 =>
            if v7 = uG.2.2.2.1 then
              bd (p_X4_wear uH uC uT uI uM) (fun v8 =>
              if v8 = uG.2.2.2.2.1 then
                bd (p_X4_limit uH uC uT uI uM) (fun v9 =>
                if v9 = uG.2.2.2.2.2.1 then
                  bd (p_X4_suspense uH uC uT uI uM) (fun v10 =>
                  if v10 = uG.2.2.2.2.2.2.1 then
                    bd (p_X4_cuts uH uC uT uI uM) (fun v11 =>
                    bd (p_X5_cuts uG) (fun v12 =>
                    if v11 = v12 then
                      bd (p_X4_instalments uH uC uT uI uM) (fun v13 =>
                      if v13 = (nI uG.2.2.2.2.2.2.2.2.2.2.2.2.1.1) then
                        bd (p_X4_readers uH uC uT uI uM) (fun v14 =>
                        if v14 = (nI uG.2.2.2.2.2.2.2.2.2.2.1.1) then
                          bd (p_X4_subscribers uH uC uT uI uM) (fun v15 =>
                          bd (p_X5_subscribers uG) (fun v16 =>
                          if v15 = v16 then
                            bd (p_X4_mirrors uH uC uT uI uM) (fun v17 =>
                            if v17 = (nI uG.2.2.2.2.2.2.2.2.2.2.2.1.1) then
                              p_X5_isSame_L170 200 uH uC uT uI uM uG (fun _ => (0 : Int32)) (nI uG.2.2.2.2.2.2.2.2.2.1.1) (0 : Int32)
                            else
                              some (0 : Int32))
                          else
                            some (0 : Int32)))
                        else
                          some (0 : Int32))
                      else
                        some (0 : Int32))
                    else
                      some (0 : Int32)))
                  else
                    some (0 : Int32))
                else
                  some (0 : Int32))
              else
                some (0 : Int32))
            else
              some (0 : Int32))
          else
            some (0 : Int32)))
        else
          some (0 : Int32))
      else
        some (0 : Int32))
    else
      some (0 : Int32))
  else
    some (0 : Int32))
set_option maxHeartbeats 4000000 in
set_option maxRecDepth 100000 in
theorem c_X5_isSame (l : Launch) (dC : Nat → ClassId) (dI : Nat → Nat → Nat) (cI cZ cJ : ClassId) (n0 h0 h3 h4 h5 h6 c0 c8 c9 c10 c11 c12 c13 t0 t8 t9 t10 t11 t12 t13 i0 i1 i2 i3 i4 m0 m1 m2 g0 : Nat) (g7 g8 g9 g10 g11 g12 : Nat) (G9 G10 G11 G12 : Nat → Nat) (sz : Nat) (uH : tX1) (uC : tX0) (uT : tX0) (uI : tX2) (uM : tX3) (uG : tX5) {z : Int32} (hok : p_X5_isSame uH uC uT uI uM uG = some z) : Met l yX5_isSame (Cond.code yX5_isSame cX5_isSame 15 (some .boolean) :: lw_all) { frames := 5, cells := 1, slots := 8, locals := 115 } (prA (dC, dI) vwCl (TYG cI cZ cJ) ((wN cI cZ n0 h0 h3 h4 h5 h6 c0 c8 c9 c10 c11 c12 c13 t0 t8 t9 t10 t11 t12 t13 i0 i1 i2 i3 i4 m0 m1 m2 uH uC uT uI uM) ++ (wX5 cI cZ cJ g0 g7 g8 g9 g10 g11 g12 G9 G10 G11 G12 uG)) sz [.ref g0, .ref n0]) (va_Qi (fun (r : Int32) (_ : (Nat × Nat × Nat × Nat × Nat × Nat × (Nat → Nat) × (Nat → Nat) × (Nat → Nat) × (Nat → Nat))) => r = z) (fun a9 t => va_P (dC, dI) vwCl ((wN cI cZ n0 h0 h3 h4 h5 h6 c0 c8 c9 c10 c11 c12 c13 t0 t8 t9 t10 t11 t12 t13 i0 i1 i2 i3 i4 m0 m1 m2 uH uC uT uI uM) ++ wX5 cI cZ cJ g0 a9.1 a9.2.1 a9.2.2.1 a9.2.2.2.1 a9.2.2.2.2.1 a9.2.2.2.2.2.1 a9.2.2.2.2.2.2.1 a9.2.2.2.2.2.2.2.1 a9.2.2.2.2.2.2.2.2.1 a9.2.2.2.2.2.2.2.2.2 uG) t.heap ∧ va_D (va_A ((wN cI cZ n0 h0 h3 h4 h5 h6 c0 c8 c9 c10 c11 c12 c13 t0 t8 t9 t10 t11 t12 t13 i0 i1 i2 i3 i4 m0 m1 m2 uH uC uT uI uM) ++ (wX5 cI cZ cJ g0 g7 g8 g9 g10 g11 g12 G9 G10 G11 G12 uG)) sz) ((wN cI cZ n0 h0 h3 h4 h5 h6 c0 c8 c9 c10 c11 c12 c13 t0 t8 t9 t10 t11 t12 t13 i0 i1 i2 i3 i4 m0 m1 m2 uH uC uT uI uM) ++ wX5 cI cZ cJ g0 a9.1 a9.2.1 a9.2.2.1 a9.2.2.2.1 a9.2.2.2.2.1 a9.2.2.2.2.2.1 a9.2.2.2.2.2.2.1 a9.2.2.2.2.2.2.2.1 a9.2.2.2.2.2.2.2.2.1 a9.2.2.2.2.2.2.2.2.2 uG)) (va_A ((wN cI cZ n0 h0 h3 h4 h5 h6 c0 c8 c9 c10 c11 c12 c13 t0 t8 t9 t10 t11 t12 t13 i0 i1 i2 i3 i4 m0 m1 m2 uH uC uT uI uM) ++ (wX5 cI cZ cJ g0 g7 g8 g9 g10 g11 g12 G9 G10 G11 G12 uG)) sz)) 1 8 (va_A ((wN cI cZ n0 h0 h3 h4 h5 h6 c0 c8 c9 c10 c11 c12 c13 t0 t8 t9 t10 t11 t12 t13 i0 i1 i2 i3 i4 m0 m1 m2 uH uC uT uI uM) ++ (wX5 cI cZ cJ g0 g7 g8 g9 g10 g11 g12 G9 G10 G11 G12 uG)) sz) := by
  refine oM (by decide) (Nat.le_of_ble_eq_true rfl) ?_
  intro p e s m args below meth c S hr hlk hnm hB ls hl
  have hx := S.1
  have hb := S.2.1
  have hml := S.2.2.1
  have hown : s.vm.findClass RX5 = some m.cls := S.2.2.2.1
  have hts := S.2.2.2.2
  have S : CallFix p m c cX5_isSame 15 s args lw_all RX5 := S
  have hl : lv_has ls 15 [(0, .ref g0), (1, .ref n0)] := hl
  obtain ⟨hsz, hP, hK, hD0, hO⟩ := hB
  subst hsz
  have hD := hD0.self (sz := s.heap.size)
  generalize hAe : va_A ((wN cI cZ n0 h0 h3 h4 h5 h6 c0 c8 c9 c10 c11 c12 c13 t0 t8 t9 t10 t11 t12 t13 i0 i1 i2 i3 i4 m0 m1 m2 uH uC uT uI uM) ++ (wX5 cI cZ cJ g0 g7 g8 g9 g10 g11 g12 G9 G10 G11 G12 uG)) s.heap.size = A at hD ⊢
  have hA : ∀ q : Nat, s.heap.size ≤ q → A q := fun q h => by rw [← hAe]; exact Or.inr h
  have hS : va_S A s.heap s.heap [] := va_S.rf
  have hP : va_P (dC, dI) vwCl ((wN cI cZ n0 h0 h3 h4 h5 h6 c0 c8 c9 c10 c11 c12 c13 t0 t8 t9 t10 t11 t12 t13 i0 i1 i2 i3 i4 m0 m1 m2 uH uC uT uI uM) ++ ((wX5 cI cZ cJ g0 g7 g8 g9 g10 g11 g12 G9 G10 G11 G12 uG) ++ ([] : va_W))) s.heap := zx_P  hP
  have hD : va_D A ((wN cI cZ n0 h0 h3 h4 h5 h6 c0 c8 c9 c10 c11 c12 c13 t0 t8 t9 t10 t11 t12 t13 i0 i1 i2 i3 i4 m0 m1 m2 uH uC uT uI uM) ++ ((wX5 cI cZ cJ g0 g7 g8 g9 g10 g11 g12 G9 G10 G11 G12 uG) ++ ([] : va_W))) := zx_D  hD
  have hK2 : va_K (dC, dI) vwCl (TYS cI cZ) s := hK.sub [0, 1] rfl
  have J920 : ∀ (g7 : Nat) (g8 : Nat) (g9 : Nat) (g10 : Nat) (g11 : Nat) (g12 : Nat) (G9 : (Nat → Nat)) (G10 : (Nat → Nat)) (G11 : (Nat → Nat)) (G12 : (Nat → Nat)) (s920_0 : UInt64) (s920_1 : UInt64) (H : Heap) (locs : List Loc) (hP : va_P (dC, dI) vwCl ((wN cI cZ n0 h0 h3 h4 h5 h6 c0 c8 c9 c10 c11 c12 c13 t0 t8 t9 t10 t11 t12 t13 i0 i1 i2 i3 i4 m0 m1 m2 uH uC uT uI uM) ++ (wX5 cI cZ cJ g0 g7 g8 g9 g10 g11 g12 G9 G10 G11 G12 uG ++ ([] : va_W))) H) (hD : va_D A ((wN cI cZ n0 h0 h3 h4 h5 h6 c0 c8 c9 c10 c11 c12 c13 t0 t8 t9 t10 t11 t12 t13 i0 i1 i2 i3 i4 m0 m1 m2 uH uC uT uI uM) ++ (wX5 cI cZ cJ g0 g7 g8 g9 g10 g11 g12 G9 G10 G11 G12 uG ++ ([] : va_W)))) (hS : va_S A s.heap H locs) (ls : Array Slot) (hl : lv_has ls 15 []) (hok : p_X5_isSame_J920 uH uC uT uI uM uG s920_0 s920_1 = some z), W p l e { frames := 5, cells := 1, slots := 8, locals := 115 } s m args below meth c H locs 1 8 (MQ below (va_Qi (fun (r : Int32) (_ : (Nat × Nat × Nat × Nat × Nat × Nat × (Nat → Nat) × (Nat → Nat) × (Nat → Nat) × (Nat → Nat))) => r = z) (fun a9 t => va_P (dC, dI) vwCl ((wN cI cZ n0 h0 h3 h4 h5 h6 c0 c8 c9 c10 c11 c12 c13 t0 t8 t9 t10 t11 t12 t13 i0 i1 i2 i3 i4 m0 m1 m2 uH uC uT uI uM) ++ wX5 cI cZ cJ g0 a9.1 a9.2.1 a9.2.2.1 a9.2.2.2.1 a9.2.2.2.2.1 a9.2.2.2.2.2.1 a9.2.2.2.2.2.2.1 a9.2.2.2.2.2.2.2.1 a9.2.2.2.2.2.2.2.2.1 a9.2.2.2.2.2.2.2.2.2 uG) t.heap ∧ va_D A ((wN cI cZ n0 h0 h3 h4 h5 h6 c0 c8 c9 c10 c11 c12 c13 t0 t8 t9 t10 t11 t12 t13 i0 i1 i2 i3 i4 m0 m1 m2 uH uC uT uI uM) ++ wX5 cI cZ cJ g0 a9.1 a9.2.1 a9.2.2.1 a9.2.2.2.1 a9.2.2.2.2.1 a9.2.2.2.2.2.1 a9.2.2.2.2.2.2.1 a9.2.2.2.2.2.2.2.1 a9.2.2.2.2.2.2.2.2.1 a9.2.2.2.2.2.2.2.2.2 uG)) A) args s 1 8 A) (F0 m 920 ls [.double s920_0, .double s920_1]) := by
    intro g7 g8 g9 g10 g11 g12 G9 G10 G11 G12 s920_0 s920_1 H locs hP hD hS ls hl hok
    unfold p_X5_isSame_J920 at hok
    refine lv_dcmp hx hb dX5_isSame_920 ?_
    refine lv_if_ne (tgt := 928) hx hb dX5_isSame_921 (by decide) (fun hc => ?_) (fun hc => ?_)
    · have hok := iq hok hc
      refine lv_iconst (v := (0 : Int32)) hx hb dX5_isSame_928 (by decide) ?_
      have hok := Option.some.inj hok
      subst hok
      exact eAz S hr hlk (by decide) rfl (g7, g8, g9, g10, g11, g12, G9, G10, G11, G12) (nx_P hP) (nx_D hD) hS (Nat.le_of_ble_eq_true rfl) (Nat.le_of_ble_eq_true rfl) dX5_isSame_929
    · have hok := ip hok hc
      refine lv_iconst (v := (1 : Int32)) hx hb dX5_isSame_924 (by decide) ?_
      refine lv_goto (tgt := 929) hx hb dX5_isSame_925 (by decide) ?_
      have hok := Option.some.inj hok
      subst hok
      exact eAz S hr hlk (by decide) rfl (g7, g8, g9, g10, g11, g12, G9, G10, G11, G12) (nx_P hP) (nx_D hD) hS (Nat.le_of_ble_eq_true rfl) (Nat.le_of_ble_eq_true rfl) dX5_isSame_929
  have L695 : ∀ n695 : Nat, ∀ (g7 : Nat) (g8 : Nat) (g9 : Nat) (g10 : Nat) (g11 : Nat) (g12 : Nat) (G9 : (Nat → Nat)) (G10 : (Nat → Nat)) (G11 : (Nat → Nat)) (G12 : (Nat → Nat)) (l695_4 : Int32) (l695_5 : Int32) (l695_6 : Int32) (l695_7 : Int32) (l695_8 : Int32) (l695_9 : Int32) (l695_10 : Int32) (H : Heap) (locs : List Loc) (hP : va_P (dC, dI) vwCl ((wN cI cZ n0 h0 h3 h4 h5 h6 c0 c8 c9 c10 c11 c12 c13 t0 t8 t9 t10 t11 t12 t13 i0 i1 i2 i3 i4 m0 m1 m2 uH uC uT uI uM) ++ (wX5 cI cZ cJ g0 g7 g8 g9 g10 g11 g12 G9 G10 G11 G12 uG ++ ([] : va_W))) H) (hD : va_D A ((wN cI cZ n0 h0 h3 h4 h5 h6 c0 c8 c9 c10 c11 c12 c13 t0 t8 t9 t10 t11 t12 t13 i0 i1 i2 i3 i4 m0 m1 m2 uH uC uT uI uM) ++ (wX5 cI cZ cJ g0 g7 g8 g9 g10 g11 g12 G9 G10 G11 G12 uG ++ ([] : va_W)))) (hS : va_S A s.heap H locs) (ls : Array Slot) (hl : lv_has ls 15 [(0, .ref g0), (1, .ref n0), (4, .int l695_4), (5, .int l695_5), (6, .int l695_6), (7, .int l695_7), (8, .int l695_8), (9, .int l695_9), (10, .int l695_10)]) (hok : p_X5_isSame_L695 n695 uH uC uT uI uM uG l695_4 l695_5 l695_6 l695_7 l695_8 l695_9 l695_10 = some z), W p l e { frames := 5, cells := 1, slots := 8, locals := 115 } s m args below meth c H locs 1 8 (MQ below (va_Qi (fun (r : Int32) (_ : (Nat × Nat × Nat × Nat × Nat × Nat × (Nat → Nat) × (Nat → Nat) × (Nat → Nat) × (Nat → Nat))) => r = z) (fun a9 t => va_P (dC, dI) vwCl ((wN cI cZ n0 h0 h3 h4 h5 h6 c0 c8 c9 c10 c11 c12 c13 t0 t8 t9 t10 t11 t12 t13 i0 i1 i2 i3 i4 m0 m1 m2 uH uC uT uI uM) ++ wX5 cI cZ cJ g0 a9.1 a9.2.1 a9.2.2.1 a9.2.2.2.1 a9.2.2.2.2.1 a9.2.2.2.2.2.1 a9.2.2.2.2.2.2.1 a9.2.2.2.2.2.2.2.1 a9.2.2.2.2.2.2.2.2.1 a9.2.2.2.2.2.2.2.2.2 uG) t.heap ∧ va_D A ((wN cI cZ n0 h0 h3 h4 h5 h6 c0 c8 c9 c10 c11 c12 c13 t0 t8 t9 t10 t11 t12 t13 i0 i1 i2 i3 i4 m0 m1 m2 uH uC uT uI uM) ++ wX5 cI cZ cJ g0 a9.1 a9.2.1 a9.2.2.1 a9.2.2.2.1 a9.2.2.2.2.1 a9.2.2.2.2.2.1 a9.2.2.2.2.2.2.1 a9.2.2.2.2.2.2.2.1 a9.2.2.2.2.2.2.2.2.1 a9.2.2.2.2.2.2.2.2.2 uG)) A) args s 1 8 A) (F0 m 695 ls []) := by
    intro n695
    induction n695 with
    | zero =>
      intro g7 g8 g9 g10 g11 g12 G9 G10 G11 G12 l695_4 l695_5 l695_6 l695_7 l695_8 l695_9 l695_10 H locs hP hD hS ls hl hok
      rw [p_X5_isSame_L695] at hok
      cases hok
    | succ n695 ih695 =>
      have J819 : ∀ (g7 : Nat) (g8 : Nat) (g9 : Nat) (g10 : Nat) (g11 : Nat) (g12 : Nat) (G9 : (Nat → Nat)) (G10 : (Nat → Nat)) (G11 : (Nat → Nat)) (G12 : (Nat → Nat)) (l819_4 : Int32) (l819_5 : Int32) (l819_6 : Int32) (l819_7 : Int32) (l819_8 : Int32) (l819_9 : Int32) (l819_10 : Int32) (l819_11 : Int32) (l819_12 : Int32) (H : Heap) (locs : List Loc) (hP : va_P (dC, dI) vwCl ((wN cI cZ n0 h0 h3 h4 h5 h6 c0 c8 c9 c10 c11 c12 c13 t0 t8 t9 t10 t11 t12 t13 i0 i1 i2 i3 i4 m0 m1 m2 uH uC uT uI uM) ++ (wX5 cI cZ cJ g0 g7 g8 g9 g10 g11 g12 G9 G10 G11 G12 uG ++ ([] : va_W))) H) (hD : va_D A ((wN cI cZ n0 h0 h3 h4 h5 h6 c0 c8 c9 c10 c11 c12 c13 t0 t8 t9 t10 t11 t12 t13 i0 i1 i2 i3 i4 m0 m1 m2 uH uC uT uI uM) ++ (wX5 cI cZ cJ g0 g7 g8 g9 g10 g11 g12 G9 G10 G11 G12 uG ++ ([] : va_W)))) (hS : va_S A s.heap H locs) (ls : Array Slot) (hl : lv_has ls 15 [(0, .ref g0), (1, .ref n0), (4, .int l819_4), (5, .int l819_5), (6, .int l819_6), (7, .int l819_7), (8, .int l819_8), (9, .int l819_9), (10, .int l819_10), (11, .int l819_11), (12, .int l819_12)]) (hok : p_X5_isSame_J819 (p_X5_isSame_L695 n695) uH uC uT uI uM uG l819_4 l819_5 l819_6 l819_7 l819_8 l819_9 l819_10 l819_11 l819_12 = some z), W p l e { frames := 5, cells := 1, slots := 8, locals := 115 } s m args below meth c H locs 1 8 (MQ below (va_Qi (fun (r : Int32) (_ : (Nat × Nat × Nat × Nat × Nat × Nat × (Nat → Nat) × (Nat → Nat) × (Nat → Nat) × (Nat → Nat))) => r = z) (fun a9 t => va_P (dC, dI) vwCl ((wN cI cZ n0 h0 h3 h4 h5 h6 c0 c8 c9 c10 c11 c12 c13 t0 t8 t9 t10 t11 t12 t13 i0 i1 i2 i3 i4 m0 m1 m2 uH uC uT uI uM) ++ wX5 cI cZ cJ g0 a9.1 a9.2.1 a9.2.2.1 a9.2.2.2.1 a9.2.2.2.2.1 a9.2.2.2.2.2.1 a9.2.2.2.2.2.2.1 a9.2.2.2.2.2.2.2.1 a9.2.2.2.2.2.2.2.2.1 a9.2.2.2.2.2.2.2.2.2 uG) t.heap ∧ va_D A ((wN cI cZ n0 h0 h3 h4 h5 h6 c0 c8 c9 c10 c11 c12 c13 t0 t8 t9 t10 t11 t12 t13 i0 i1 i2 i3 i4 m0 m1 m2 uH uC uT uI uM) ++ wX5 cI cZ cJ g0 a9.1 a9.2.1 a9.2.2.1 a9.2.2.2.1 a9.2.2.2.2.1 a9.2.2.2.2.2.1 a9.2.2.2.2.2.2.1 a9.2.2.2.2.2.2.2.1 a9.2.2.2.2.2.2.2.2.1 a9.2.2.2.2.2.2.2.2.2 uG)) A) args s 1 8 A) (F0 m 819 ls []) := by
        intro g7 g8 g9 g10 g11 g12 G9 G10 G11 G12 l819_4 l819_5 l819_6 l819_7 l819_8 l819_9 l819_10 l819_11 l819_12 H locs hP hD hS ls hl hok
        unfold p_X5_isSame_J819 at hok
        refine lv_aload_n hx hb dX5_isSame_819 rfl (lv_at hl 1 rfl) ?_
        refine lv_iload hx hb dX5_isSame_820 (lv_at hl 8 rfl) ?_
        obtain ⟨v86, hc86, hok⟩ := bd_some hok
        refine cRVi (ci := 4) (q0 := 0) [.int l819_10] S hK2 (va_Pmid (wa := []) hP) (c_X4_gradesBy l dC dI cI cZ n0 h0 h3 h4 h5 h6 c0 c8 c9 c10 c11 c12 c13 t0 t8 t9 t10 t11 t12 t13 i0 i1 i2 i3 i4 m0 m1 m2 uH uC uT uI uM l819_10 hc86) (lw_V qm_X5_176 qi_X4_gradesBy qs_X4_gradesBy qn_X4 qc_X4_gradesBy) hd_X4_gradesBy ⟨rfl, rfl⟩ ⟨Nat.le_of_ble_eq_true rfl, Nat.le_of_ble_eq_true rfl⟩ ⟨Nat.le_of_ble_eq_true rfl, Nat.le_of_ble_eq_true rfl⟩ rfl rfl rfl hl.1 (Nat.le_of_ble_eq_true rfl) rfl dX5_isSame_822 ?_
        refine lv_iload hx hb dX5_isSame_825 (lv_at hl 9 rfl) ?_
        refine lv_icmp_ne (tgt := 841) hx hb dX5_isSame_827 (by decide) (fun hc => ?_) (fun hc => ?_)
        · have hok := iq hok hc
          refine lv_iconst (v := (0 : Int32)) hx hb dX5_isSame_841 (by decide) ?_
          have hok := Option.some.inj hok
          subst hok
          exact eAz S hr hlk (by decide) rfl (g7, g8, g9, g10, g11, g12, G9, G10, G11, G12) (nx_P hP) (nx_D hD) hS (Nat.le_of_ble_eq_true rfl) (Nat.le_of_ble_eq_true rfl) dX5_isSame_842
        · have hok := ip hok hc
          refine lv_aload_n hx hb dX5_isSame_830 rfl (lv_at hl 1 rfl) ?_
          refine lv_iload hx hb dX5_isSame_831 (lv_at hl 8 rfl) ?_
          obtain ⟨v87, hc87, hok⟩ := bd_some hok
          refine cRVi (ci := 4) (q0 := 0) [.int l819_10] S hK2 (va_Pmid (wa := []) hP) (c_X4_favouriteOf l dC dI cI cZ n0 h0 h3 h4 h5 h6 c0 c8 c9 c10 c11 c12 c13 t0 t8 t9 t10 t11 t12 t13 i0 i1 i2 i3 i4 m0 m1 m2 uH uC uT uI uM l819_10 hc87) (lw_V qm_X5_179 qi_X4_favouriteOf qs_X4_favouriteOf qn_X4 qc_X4_favouriteOf) hd_X4_favouriteOf ⟨rfl, rfl⟩ ⟨Nat.le_of_ble_eq_true rfl, Nat.le_of_ble_eq_true rfl⟩ ⟨Nat.le_of_ble_eq_true rfl, Nat.le_of_ble_eq_true rfl⟩ rfl rfl rfl hl.1 (Nat.le_of_ble_eq_true rfl) rfl dX5_isSame_833 ?_
          refine lv_iload hx hb dX5_isSame_836 (lv_at hl 10 rfl) ?_
          refine lv_icmp_eq (tgt := 843) hx hb dX5_isSame_838 (by decide) (fun hc => ?_) (fun hc => ?_)
          · have hok := ip hok hc
            refine lv_iinc (v := (l819_10 + 1)) (lv' := [(10, .int (l819_10 + 1)), (0, .ref g0), (1, .ref n0), (4, .int l819_4), (5, .int l819_5), (6, .int l819_6), (7, .int l819_7), (8, .int l819_8), (9, .int l819_9), (11, .int l819_11), (12, .int l819_12)]) hx hb dX5_isSame_843 hl (k := 8) rfl rfl (by decide) rfl (fun ls hl => ?_)
            refine lv_goto (tgt := 695) hx hb dX5_isSame_846 (by decide) ?_
            exact ih695 g7 g8 g9 g10 g11 g12 G9 G10 G11 G12 l819_4 l819_5 l819_6 l819_7 l819_8 l819_9 (l819_10 + 1) _ _ hP hD hS _ (lv_sub hl [1, 2, 3, 4, 5, 6, 7, 8, 0] rfl) hok
          · have hok := iq hok hc
            refine lv_iconst (v := (0 : Int32)) hx hb dX5_isSame_841 (by decide) ?_
            have hok := Option.some.inj hok
            subst hok
            exact eAz S hr hlk (by decide) rfl (g7, g8, g9, g10, g11, g12, G9, G10, G11, G12) (nx_P hP) (nx_D hD) hS (Nat.le_of_ble_eq_true rfl) (Nat.le_of_ble_eq_true rfl) dX5_isSame_842
      have L714 : ∀ n714 : Nat, ∀ (g7 : Nat) (g8 : Nat) (g9 : Nat) (g10 : Nat) (g11 : Nat) (g12 : Nat) (G9 : (Nat → Nat)) (G10 : (Nat → Nat)) (G11 : (Nat → Nat)) (G12 : (Nat → Nat)) (l714_4 : Int32) (l714_5 : Int32) (l714_6 : Int32) (l714_7 : Int32) (l714_8 : Int32) (l714_9 : Int32) (l714_10 : Int32) (l714_11 : Int32) (l714_12 : Int32) (l714_13 : Int32) (H : Heap) (locs : List Loc) (hP : va_P (dC, dI) vwCl ((wN cI cZ n0 h0 h3 h4 h5 h6 c0 c8 c9 c10 c11 c12 c13 t0 t8 t9 t10 t11 t12 t13 i0 i1 i2 i3 i4 m0 m1 m2 uH uC uT uI uM) ++ (wX5 cI cZ cJ g0 g7 g8 g9 g10 g11 g12 G9 G10 G11 G12 uG ++ ([] : va_W))) H) (hD : va_D A ((wN cI cZ n0 h0 h3 h4 h5 h6 c0 c8 c9 c10 c11 c12 c13 t0 t8 t9 t10 t11 t12 t13 i0 i1 i2 i3 i4 m0 m1 m2 uH uC uT uI uM) ++ (wX5 cI cZ cJ g0 g7 g8 g9 g10 g11 g12 G9 G10 G11 G12 uG ++ ([] : va_W)))) (hS : va_S A s.heap H locs) (ls : Array Slot) (hl : lv_has ls 15 [(0, .ref g0), (1, .ref n0), (4, .int l714_4), (5, .int l714_5), (6, .int l714_6), (7, .int l714_7), (8, .int l714_8), (9, .int l714_9), (10, .int l714_10), (11, .int l714_11), (12, .int l714_12), (13, .int l714_13)]) (hok : p_X5_isSame_L714 (p_X5_isSame_L695 n695) n714 uH uC uT uI uM uG l714_4 l714_5 l714_6 l714_7 l714_8 l714_9 l714_10 l714_11 l714_12 l714_13 = some z), W p l e { frames := 5, cells := 1, slots := 8, locals := 115 } s m args below meth c H locs 1 8 (MQ below (va_Qi (fun (r : Int32) (_ : (Nat × Nat × Nat × Nat × Nat × Nat × (Nat → Nat) × (Nat → Nat) × (Nat → Nat) × (Nat → Nat))) => r = z) (fun a9 t => va_P (dC, dI) vwCl ((wN cI cZ n0 h0 h3 h4 h5 h6 c0 c8 c9 c10 c11 c12 c13 t0 t8 t9 t10 t11 t12 t13 i0 i1 i2 i3 i4 m0 m1 m2 uH uC uT uI uM) ++ wX5 cI cZ cJ g0 a9.1 a9.2.1 a9.2.2.1 a9.2.2.2.1 a9.2.2.2.2.1 a9.2.2.2.2.2.1 a9.2.2.2.2.2.2.1 a9.2.2.2.2.2.2.2.1 a9.2.2.2.2.2.2.2.2.1 a9.2.2.2.2.2.2.2.2.2 uG) t.heap ∧ va_D A ((wN cI cZ n0 h0 h3 h4 h5 h6 c0 c8 c9 c10 c11 c12 c13 t0 t8 t9 t10 t11 t12 t13 i0 i1 i2 i3 i4 m0 m1 m2 uH uC uT uI uM) ++ wX5 cI cZ cJ g0 a9.1 a9.2.1 a9.2.2.1 a9.2.2.2.1 a9.2.2.2.2.1 a9.2.2.2.2.2.1 a9.2.2.2.2.2.2.1 a9.2.2.2.2.2.2.2.1 a9.2.2.2.2.2.2.2.2.1 a9.2.2.2.2.2.2.2.2.2 uG)) A) args s 1 8 A) (F0 m 714 ls []) := by
        intro n714
        induction n714 with
        | zero =>
          intro g7 g8 g9 g10 g11 g12 G9 G10 G11 G12 l714_4 l714_5 l714_6 l714_7 l714_8 l714_9 l714_10 l714_11 l714_12 l714_13 H locs hP hD hS ls hl hok
          rw [p_X5_isSame_L714] at hok
          cases hok
        | succ n714 ih714 =>
          have J783 : ∀ (g7 : Nat) (g8 : Nat) (g9 : Nat) (g10 : Nat) (g11 : Nat) (g12 : Nat) (G9 : (Nat → Nat)) (G10 : (Nat → Nat)) (G11 : (Nat → Nat)) (G12 : (Nat → Nat)) (l783_4 : Int32) (l783_5 : Int32) (l783_6 : Int32) (l783_7 : Int32) (l783_8 : Int32) (l783_9 : Int32) (l783_10 : Int32) (l783_11 : Int32) (l783_12 : Int32) (l783_13 : Int32) (l783_14 : Int32) (H : Heap) (locs : List Loc) (hP : va_P (dC, dI) vwCl ((wN cI cZ n0 h0 h3 h4 h5 h6 c0 c8 c9 c10 c11 c12 c13 t0 t8 t9 t10 t11 t12 t13 i0 i1 i2 i3 i4 m0 m1 m2 uH uC uT uI uM) ++ (wX5 cI cZ cJ g0 g7 g8 g9 g10 g11 g12 G9 G10 G11 G12 uG ++ ([] : va_W))) H) (hD : va_D A ((wN cI cZ n0 h0 h3 h4 h5 h6 c0 c8 c9 c10 c11 c12 c13 t0 t8 t9 t10 t11 t12 t13 i0 i1 i2 i3 i4 m0 m1 m2 uH uC uT uI uM) ++ (wX5 cI cZ cJ g0 g7 g8 g9 g10 g11 g12 G9 G10 G11 G12 uG ++ ([] : va_W)))) (hS : va_S A s.heap H locs) (ls : Array Slot) (hl : lv_has ls 15 [(0, .ref g0), (1, .ref n0), (4, .int l783_4), (5, .int l783_5), (6, .int l783_6), (7, .int l783_7), (8, .int l783_8), (9, .int l783_9), (10, .int l783_10), (11, .int l783_11), (12, .int l783_12), (13, .int l783_13), (14, .int l783_14)]) (hok : p_X5_isSame_J783 (p_X5_isSame_L695 n695) (p_X5_isSame_L714 (p_X5_isSame_L695 n695) n714) uH uC uT uI uM uG l783_4 l783_5 l783_6 l783_7 l783_8 l783_9 l783_10 l783_11 l783_12 l783_13 l783_14 = some z), W p l e { frames := 5, cells := 1, slots := 8, locals := 115 } s m args below meth c H locs 1 8 (MQ below (va_Qi (fun (r : Int32) (_ : (Nat × Nat × Nat × Nat × Nat × Nat × (Nat → Nat) × (Nat → Nat) × (Nat → Nat) × (Nat → Nat))) => r = z) (fun a9 t => va_P (dC, dI) vwCl ((wN cI cZ n0 h0 h3 h4 h5 h6 c0 c8 c9 c10 c11 c12 c13 t0 t8 t9 t10 t11 t12 t13 i0 i1 i2 i3 i4 m0 m1 m2 uH uC uT uI uM) ++ wX5 cI cZ cJ g0 a9.1 a9.2.1 a9.2.2.1 a9.2.2.2.1 a9.2.2.2.2.1 a9.2.2.2.2.2.1 a9.2.2.2.2.2.2.1 a9.2.2.2.2.2.2.2.1 a9.2.2.2.2.2.2.2.2.1 a9.2.2.2.2.2.2.2.2.2 uG) t.heap ∧ va_D A ((wN cI cZ n0 h0 h3 h4 h5 h6 c0 c8 c9 c10 c11 c12 c13 t0 t8 t9 t10 t11 t12 t13 i0 i1 i2 i3 i4 m0 m1 m2 uH uC uT uI uM) ++ wX5 cI cZ cJ g0 a9.1 a9.2.1 a9.2.2.1 a9.2.2.2.1 a9.2.2.2.2.1 a9.2.2.2.2.2.1 a9.2.2.2.2.2.2.1 a9.2.2.2.2.2.2.2.1 a9.2.2.2.2.2.2.2.2.1 a9.2.2.2.2.2.2.2.2.2 uG)) A) args s 1 8 A) (F0 m 783 ls []) := by
            intro g7 g8 g9 g10 g11 g12 G9 G10 G11 G12 l783_4 l783_5 l783_6 l783_7 l783_8 l783_9 l783_10 l783_11 l783_12 l783_13 l783_14 H locs hP hD hS ls hl hok
            unfold p_X5_isSame_J783 at hok
            refine lv_aload_n hx hb dX5_isSame_783 rfl (lv_at hl 1 rfl) ?_
            refine lv_iload hx hb dX5_isSame_784 (lv_at hl 8 rfl) ?_
            refine lv_iload hx hb dX5_isSame_786 (lv_at hl 11 rfl) ?_
            obtain ⟨v88, hc88, hok⟩ := bd_some hok
            refine cRVi (ci := 4) (q0 := 0) [.int l783_10, .int l783_13] S hK2 (va_Pmid (wa := []) hP) (c_X4_grade l dC dI cI cZ n0 h0 h3 h4 h5 h6 c0 c8 c9 c10 c11 c12 c13 t0 t8 t9 t10 t11 t12 t13 i0 i1 i2 i3 i4 m0 m1 m2 uH uC uT uI uM l783_10 l783_13 hc88) (lw_V qm_X5_174 qi_X4_grade qs_X4_grade qn_X4 qc_X4_grade) hd_X4_grade ⟨rfl, rfl⟩ ⟨Nat.le_of_ble_eq_true rfl, Nat.le_of_ble_eq_true rfl⟩ ⟨Nat.le_of_ble_eq_true rfl, Nat.le_of_ble_eq_true rfl⟩ rfl rfl rfl hl.1 (Nat.le_of_ble_eq_true rfl) rfl dX5_isSame_788 ?_
            refine lv_iload hx hb dX5_isSame_791 (lv_at hl 12 rfl) ?_
            refine lv_icmp_eq (tgt := 798) hx hb dX5_isSame_793 (by decide) (fun hc => ?_) (fun hc => ?_)
            · have hok := ip hok hc
              refine lv_iinc (v := (l783_13 + 1)) (lv' := [(13, .int (l783_13 + 1)), (0, .ref g0), (1, .ref n0), (4, .int l783_4), (5, .int l783_5), (6, .int l783_6), (7, .int l783_7), (8, .int l783_8), (9, .int l783_9), (10, .int l783_10), (11, .int l783_11), (12, .int l783_12), (14, .int l783_14)]) hx hb dX5_isSame_798 hl (k := 11) rfl rfl (by decide) rfl (fun ls hl => ?_)
              refine lv_goto (tgt := 714) hx hb dX5_isSame_801 (by decide) ?_
              exact ih714 g7 g8 g9 g10 g11 g12 G9 G10 G11 G12 l783_4 l783_5 l783_6 l783_7 l783_8 l783_9 l783_10 l783_11 l783_12 (l783_13 + 1) _ _ hP hD hS _ (lv_sub hl [1, 2, 3, 4, 5, 6, 7, 8, 9, 10, 11, 0] rfl) hok
            · have hok := iq hok hc
              refine lv_iconst (v := (0 : Int32)) hx hb dX5_isSame_796 (by decide) ?_
              have hok := Option.some.inj hok
              subst hok
              exact eAz S hr hlk (by decide) rfl (g7, g8, g9, g10, g11, g12, G9, G10, G11, G12) (nx_P hP) (nx_D hD) hS (Nat.le_of_ble_eq_true rfl) (Nat.le_of_ble_eq_true rfl) dX5_isSame_797
          have J779 : ∀ (g7 : Nat) (g8 : Nat) (g9 : Nat) (g10 : Nat) (g11 : Nat) (g12 : Nat) (G9 : (Nat → Nat)) (G10 : (Nat → Nat)) (G11 : (Nat → Nat)) (G12 : (Nat → Nat)) (l779_4 : Int32) (l779_5 : Int32) (l779_6 : Int32) (l779_7 : Int32) (l779_8 : Int32) (l779_9 : Int32) (l779_10 : Int32) (l779_11 : Int32) (l779_13 : Int32) (l779_14 : Int32) (H : Heap) (locs : List Loc) (hP : va_P (dC, dI) vwCl ((wN cI cZ n0 h0 h3 h4 h5 h6 c0 c8 c9 c10 c11 c12 c13 t0 t8 t9 t10 t11 t12 t13 i0 i1 i2 i3 i4 m0 m1 m2 uH uC uT uI uM) ++ (wX5 cI cZ cJ g0 g7 g8 g9 g10 g11 g12 G9 G10 G11 G12 uG ++ ([] : va_W))) H) (hD : va_D A ((wN cI cZ n0 h0 h3 h4 h5 h6 c0 c8 c9 c10 c11 c12 c13 t0 t8 t9 t10 t11 t12 t13 i0 i1 i2 i3 i4 m0 m1 m2 uH uC uT uI uM) ++ (wX5 cI cZ cJ g0 g7 g8 g9 g10 g11 g12 G9 G10 G11 G12 uG ++ ([] : va_W)))) (hS : va_S A s.heap H locs) (ls : Array Slot) (hl : lv_has ls 15 [(0, .ref g0), (1, .ref n0), (4, .int l779_4), (5, .int l779_5), (6, .int l779_6), (7, .int l779_7), (8, .int l779_8), (9, .int l779_9), (10, .int l779_10), (11, .int l779_11), (13, .int l779_13), (14, .int l779_14)]) (hok : p_X5_isSame_J779 (p_X5_isSame_L695 n695) (p_X5_isSame_L714 (p_X5_isSame_L695 n695) n714) uH uC uT uI uM uG l779_4 l779_5 l779_6 l779_7 l779_8 l779_9 l779_10 l779_11 l779_13 l779_14 = some z), W p l e { frames := 5, cells := 1, slots := 8, locals := 115 } s m args below meth c H locs 1 8 (MQ below (va_Qi (fun (r : Int32) (_ : (Nat × Nat × Nat × Nat × Nat × Nat × (Nat → Nat) × (Nat → Nat) × (Nat → Nat) × (Nat → Nat))) => r = z) (fun a9 t => va_P (dC, dI) vwCl ((wN cI cZ n0 h0 h3 h4 h5 h6 c0 c8 c9 c10 c11 c12 c13 t0 t8 t9 t10 t11 t12 t13 i0 i1 i2 i3 i4 m0 m1 m2 uH uC uT uI uM) ++ wX5 cI cZ cJ g0 a9.1 a9.2.1 a9.2.2.1 a9.2.2.2.1 a9.2.2.2.2.1 a9.2.2.2.2.2.1 a9.2.2.2.2.2.2.1 a9.2.2.2.2.2.2.2.1 a9.2.2.2.2.2.2.2.2.1 a9.2.2.2.2.2.2.2.2.2 uG) t.heap ∧ va_D A ((wN cI cZ n0 h0 h3 h4 h5 h6 c0 c8 c9 c10 c11 c12 c13 t0 t8 t9 t10 t11 t12 t13 i0 i1 i2 i3 i4 m0 m1 m2 uH uC uT uI uM) ++ wX5 cI cZ cJ g0 a9.1 a9.2.1 a9.2.2.1 a9.2.2.2.1 a9.2.2.2.2.1 a9.2.2.2.2.2.1 a9.2.2.2.2.2.2.1 a9.2.2.2.2.2.2.2.1 a9.2.2.2.2.2.2.2.2.1 a9.2.2.2.2.2.2.2.2.2 uG)) A) args s 1 8 A) (F0 m 779 ls []) := by
            intro g7 g8 g9 g10 g11 g12 G9 G10 G11 G12 l779_4 l779_5 l779_6 l779_7 l779_8 l779_9 l779_10 l779_11 l779_13 l779_14 H locs hP hD hS ls hl hok
            unfold p_X5_isSame_J779 at hok
            refine lv_iload hx hb dX5_isSame_779 (lv_at hl 10 rfl) ?_
            refine lv_istore (lv' := [(12, .int l779_13), (0, .ref g0), (1, .ref n0), (4, .int l779_4), (5, .int l779_5), (6, .int l779_6), (7, .int l779_7), (8, .int l779_8), (9, .int l779_9), (10, .int l779_10), (11, .int l779_11), (13, .int l779_13), (14, .int l779_14)]) hx hb dX5_isSame_781 hl (by decide) rfl (fun ls hl => ?_)
            exact J783 g7 g8 g9 g10 g11 g12 G9 G10 G11 G12 l779_4 l779_5 l779_6 l779_7 l779_8 l779_9 l779_10 l779_11 l779_13 l779_13 l779_14 _ _ hP hD hS _ (lv_sub hl [1, 2, 3, 4, 5, 6, 7, 8, 9, 10, 0, 11, 12] rfl) hok
          intro g7 g8 g9 g10 g11 g12 G9 G10 G11 G12 l714_4 l714_5 l714_6 l714_7 l714_8 l714_9 l714_10 l714_11 l714_12 l714_13 H locs hP hD hS ls hl hok
          rw [p_X5_isSame_L714] at hok
          refine lv_iload hx hb dX5_isSame_714 (lv_at hl 11 rfl) ?_
          refine lv_aload_n hx hb dX5_isSame_716 rfl (lv_at hl 0 rfl) ?_
          refine va_get (D := (dC, dI)) (ci := 5) (v := .ref g12) (C := RX5) (T := TX5) (N := 14) hx hb hts inX5 hown hK hP 28 rfl rfl 12 (by decide) (hts _ qf_X5_33) (fun _ h9 => h9) rfl dX5_isSame_717 ?_
          refine va_alen (v := (nI uG.2.2.2.2.2.2.2.2.2.2.2.2.1.1)) hx hb hK hP 34 2 rfl rfl rfl dX5_isSame_720 ?_
          refine lv_icmp_ge (tgt := 804) hx hb dX5_isSame_721 (by decide) (fun hc => ?_) (fun hc => ?_)
          · have hok := ip hok hc
            refine lv_iload hx hb dX5_isSame_804 (lv_at hl 9 rfl) ?_
            refine lv_iload hx hb dX5_isSame_806 (lv_at hl 7 rfl) ?_
            refine lv_icmp_le (tgt := 819) hx hb dX5_isSame_808 (by decide) (fun hc => ?_) (fun hc => ?_)
            · have hok := ip hok hc
              exact J819 g7 g8 g9 g10 g11 g12 G9 G10 G11 G12 l714_4 l714_5 l714_6 l714_7 l714_8 l714_9 l714_10 l714_11 l714_12 _ _ hP hD hS _ (lv_sub hl [0, 1, 2, 3, 4, 5, 6, 7, 8, 9, 10] rfl) hok
            · have hok := iq hok hc
              refine lv_iload hx hb dX5_isSame_811 (lv_at hl 9 rfl) ?_
              refine lv_istore (lv' := [(9, .int l714_11), (0, .ref g0), (1, .ref n0), (4, .int l714_4), (5, .int l714_5), (6, .int l714_6), (7, .int l714_7), (8, .int l714_8), (10, .int l714_10), (11, .int l714_11), (12, .int l714_12), (13, .int l714_13)]) hx hb dX5_isSame_813 hl (by decide) rfl (fun ls hl => ?_)
              refine lv_iload hx hb dX5_isSame_815 (lv_at hl 8 rfl) ?_
              refine lv_istore (lv' := [(8, .int l714_10), (9, .int l714_11), (0, .ref g0), (1, .ref n0), (4, .int l714_4), (5, .int l714_5), (6, .int l714_6), (7, .int l714_7), (10, .int l714_10), (11, .int l714_11), (12, .int l714_12), (13, .int l714_13)]) hx hb dX5_isSame_817 hl (by decide) rfl (fun ls hl => ?_)
              exact J819 g7 g8 g9 g10 g11 g12 G9 G10 G11 G12 l714_4 l714_5 l714_6 l714_7 l714_10 l714_11 l714_10 l714_11 l714_12 _ _ hP hD hS _ (lv_sub hl [2, 3, 4, 5, 6, 7, 0, 1, 8, 9, 10] rfl) hok
          · have hok := iq hok hc
            refine lv_aload_n hx hb dX5_isSame_724 rfl (lv_at hl 0 rfl) ?_
            refine lv_aload_n hx hb dX5_isSame_725 rfl (lv_at hl 0 rfl) ?_
            refine va_get (D := (dC, dI)) (ci := 5) (v := .ref g11) (C := RX5) (T := TX5) (N := 14) hx hb hts inX5 hown hK hP 28 rfl rfl 11 (by decide) (hts _ qf_X5_30) (fun _ h9 => h9) rfl dX5_isSame_726 ?_
            refine lv_iload hx hb dX5_isSame_729 (lv_at hl 8 rfl) ?_
            obtain ⟨hi72, hok⟩ := gd_some hok
            refine ra11 hx hb hK 2 rfl hP (j := l714_10.toNatClampNeg) rfl hi72 dX5_isSame_731 ?_
            refine lv_aload_n hx hb dX5_isSame_732 rfl (lv_at hl 0 rfl) ?_
            refine va_get (D := (dC, dI)) (ci := 5) (v := .ref g12) (C := RX5) (T := TX5) (N := 14) hx hb hts inX5 hown hK hP 28 rfl rfl 12 (by decide) (hts _ qf_X5_33) (fun _ h9 => h9) rfl dX5_isSame_733 ?_
            refine lv_iload hx hb dX5_isSame_736 (lv_at hl 11 rfl) ?_
            obtain ⟨hi73, hok⟩ := gd_some hok
            refine ra12 hx hb hK 2 rfl hP (j := l714_13.toNatClampNeg) rfl hi73 dX5_isSame_738 ?_
            obtain ⟨v74, hc74, hok⟩ := bd_some hok
            refine cRVi (ci := 5) (q0 := 0) [.ref (G11 l714_10.toNatClampNeg), .ref (G12 l714_13.toNatClampNeg)] S hK (gr_P hP (mk11 (wa := (wN cI cZ n0 h0 h3 h4 h5 h6 c0 c8 c9 c10 c11 c12 c13 t0 t8 t9 t10 t11 t12 t13 i0 i1 i2 i3 i4 m0 m1 m2 uH uC uT uI uM)) (ex := ([] : va_W)) (cI := cI) (cZ := cZ) (cJ := cJ) (g0 := g0) (g7 := g7) (g8 := g8) (g9 := g9) (g10 := g10) (g11 := g11) (g12 := g12) (G9 := G9) (G10 := G10) (G11 := G11) (G12 := G12) (u := uG) (vp_inL rfl hi72)) (mk12 (wa := (wN cI cZ n0 h0 h3 h4 h5 h6 c0 c8 c9 c10 c11 c12 c13 t0 t8 t9 t10 t11 t12 t13 i0 i1 i2 i3 i4 m0 m1 m2 uH uC uT uI uM)) (ex := ([] : va_W)) (cI := cI) (cZ := cZ) (cJ := cJ) (g0 := g0) (g7 := g7) (g8 := g8) (g9 := g9) (g10 := g10) (g11 := g11) (g12 := g12) (G9 := G9) (G10 := G10) (G11 := G11) (G12 := G12) (u := uG) (vp_inL rfl hi73))) (c_X5_grade l dC dI cI cZ cJ g0 _ (G11 l714_10.toNatClampNeg) (G12 l714_13.toNatClampNeg) (uG.2.2.2.2.2.2.2.2.2.2.2.1.2 l714_10.toNatClampNeg).1 (uG.2.2.2.2.2.2.2.2.2.2.2.1.2 l714_10.toNatClampNeg).2 (uG.2.2.2.2.2.2.2.2.2.2.2.2.1.2 l714_13.toNatClampNeg).1 (uG.2.2.2.2.2.2.2.2.2.2.2.2.1.2 l714_13.toNatClampNeg).2 hc74) (lw_V qm_X5_170 qi_X5_grade qs_X5_grade qn_X5 qc_X5_grade) hd_X5_grade ⟨rfl, rfl⟩ ⟨Nat.le_of_ble_eq_true rfl, Nat.le_of_ble_eq_true rfl⟩ ⟨Nat.le_of_ble_eq_true rfl, Nat.le_of_ble_eq_true rfl⟩ rfl rfl rfl hl.1 (Nat.le_of_ble_eq_true rfl) rfl dX5_isSame_739 ?_
            refine lv_istore (lv' := [(14, .int v74), (0, .ref g0), (1, .ref n0), (4, .int l714_4), (5, .int l714_5), (6, .int l714_6), (7, .int l714_7), (8, .int l714_8), (9, .int l714_9), (10, .int l714_10), (11, .int l714_11), (12, .int l714_12), (13, .int l714_13)]) hx hb dX5_isSame_742 hl (by decide) rfl (fun ls hl => ?_)
            refine lv_iload hx hb dX5_isSame_744 (lv_at hl 10 rfl) ?_
            refine lv_iload hx hb dX5_isSame_746 (lv_at hl 0 rfl) ?_
            refine lv_iadd hx hb dX5_isSame_748 ?_
            refine lv_istore (lv' := [(11, .int (l714_11 + v74)), (14, .int v74), (0, .ref g0), (1, .ref n0), (4, .int l714_4), (5, .int l714_5), (6, .int l714_6), (7, .int l714_7), (8, .int l714_8), (9, .int l714_9), (10, .int l714_10), (12, .int l714_12), (13, .int l714_13)]) hx hb dX5_isSame_749 hl (by decide) rfl (fun ls hl => ?_)
            refine lv_iload hx hb dX5_isSame_751 (lv_at hl 11 rfl) ?_
            refine lv_if_lt (tgt := 779) hx hb dX5_isSame_753 (by decide) (fun hc => ?_) (fun hc => ?_)
            · have hok := ip hok hc
              exact J779 g7 g8 g9 g10 g11 g12 G9 G10 G11 G12 l714_4 l714_5 l714_6 l714_7 l714_8 l714_9 l714_10 (l714_11 + v74) l714_13 v74 _ _ hP hD hS _ (lv_sub hl [2, 3, 4, 5, 6, 7, 8, 9, 10, 0, 12, 1] rfl) hok
            · have hok := iq hok hc
              refine lv_iload hx hb dX5_isSame_756 (lv_at hl 1 rfl) ?_
              refine lv_aload_n hx hb dX5_isSame_758 rfl (lv_at hl 2 rfl) ?_
              refine lv_aload_n hx hb dX5_isSame_759 rfl (lv_at hl 2 rfl) ?_
              refine va_get (D := (dC, dI)) (ci := 5) (v := .ref g11) (C := RX5) (T := TX5) (N := 14) hx hb hts inX5 hown hK hP 28 rfl rfl 11 (by decide) (hts _ qf_X5_30) (fun _ h9 => h9) rfl dX5_isSame_760 ?_
              refine lv_iload hx hb dX5_isSame_763 (lv_at hl 10 rfl) ?_
              refine ra11 hx hb hK 2 rfl hP (j := l714_10.toNatClampNeg) rfl hi72 dX5_isSame_765 ?_
              refine lv_aload_n hx hb dX5_isSame_766 rfl (lv_at hl 2 rfl) ?_
              refine va_get (D := (dC, dI)) (ci := 5) (v := .ref g12) (C := RX5) (T := TX5) (N := 14) hx hb hts inX5 hown hK hP 28 rfl rfl 12 (by decide) (hts _ qf_X5_33) (fun _ h9 => h9) rfl dX5_isSame_767 ?_
              refine lv_iload hx hb dX5_isSame_770 (lv_at hl 11 rfl) ?_
              obtain ⟨hi75, hok⟩ := gd_some hok
              refine ra12 hx hb hK 2 rfl hP (j := l714_12.toNatClampNeg) rfl hi75 dX5_isSame_772 ?_
              obtain ⟨v76, hc76, hok⟩ := bd_some hok
              refine cRVi (ci := 5) (q0 := 0) [.ref (G11 l714_10.toNatClampNeg), .ref (G12 l714_12.toNatClampNeg)] S hK (gr_P hP (mk11 (wa := (wN cI cZ n0 h0 h3 h4 h5 h6 c0 c8 c9 c10 c11 c12 c13 t0 t8 t9 t10 t11 t12 t13 i0 i1 i2 i3 i4 m0 m1 m2 uH uC uT uI uM)) (ex := ([] : va_W)) (cI := cI) (cZ := cZ) (cJ := cJ) (g0 := g0) (g7 := g7) (g8 := g8) (g9 := g9) (g10 := g10) (g11 := g11) (g12 := g12) (G9 := G9) (G10 := G10) (G11 := G11) (G12 := G12) (u := uG) (vp_inL rfl hi72)) (mk12 (wa := (wN cI cZ n0 h0 h3 h4 h5 h6 c0 c8 c9 c10 c11 c12 c13 t0 t8 t9 t10 t11 t12 t13 i0 i1 i2 i3 i4 m0 m1 m2 uH uC uT uI uM)) (ex := ([] : va_W)) (cI := cI) (cZ := cZ) (cJ := cJ) (g0 := g0) (g7 := g7) (g8 := g8) (g9 := g9) (g10 := g10) (g11 := g11) (g12 := g12) (G9 := G9) (G10 := G10) (G11 := G11) (G12 := G12) (u := uG) (vp_inL rfl hi75))) (c_X5_grade l dC dI cI cZ cJ g0 _ (G11 l714_10.toNatClampNeg) (G12 l714_12.toNatClampNeg) (uG.2.2.2.2.2.2.2.2.2.2.2.1.2 l714_10.toNatClampNeg).1 (uG.2.2.2.2.2.2.2.2.2.2.2.1.2 l714_10.toNatClampNeg).2 (uG.2.2.2.2.2.2.2.2.2.2.2.2.1.2 l714_12.toNatClampNeg).1 (uG.2.2.2.2.2.2.2.2.2.2.2.2.1.2 l714_12.toNatClampNeg).2 hc76) (lw_V qm_X5_170 qi_X5_grade qs_X5_grade qn_X5 qc_X5_grade) hd_X5_grade ⟨rfl, rfl⟩ ⟨Nat.le_of_ble_eq_true rfl, Nat.le_of_ble_eq_true rfl⟩ ⟨Nat.le_of_ble_eq_true rfl, Nat.le_of_ble_eq_true rfl⟩ rfl rfl rfl hl.1 (Nat.le_of_ble_eq_true rfl) rfl dX5_isSame_773 ?_
              refine lv_icmp_le (tgt := 783) hx hb dX5_isSame_776 (by decide) (fun hc => ?_) (fun hc => ?_)
              · have hok := ip hok hc
                exact J783 g7 g8 g9 g10 g11 g12 G9 G10 G11 G12 l714_4 l714_5 l714_6 l714_7 l714_8 l714_9 l714_10 (l714_11 + v74) l714_12 l714_13 v74 _ _ hP hD hS _ (lv_sub hl [2, 3, 4, 5, 6, 7, 8, 9, 10, 0, 11, 12, 1] rfl) hok
              · have hok := iq hok hc
                exact J779 g7 g8 g9 g10 g11 g12 G9 G10 G11 G12 l714_4 l714_5 l714_6 l714_7 l714_8 l714_9 l714_10 (l714_11 + v74) l714_13 v74 _ _ hP hD hS _ (lv_sub hl [2, 3, 4, 5, 6, 7, 8, 9, 10, 0, 12, 1] rfl) hok
      intro g7 g8 g9 g10 g11 g12 G9 G10 G11 G12 l695_4 l695_5 l695_6 l695_7 l695_8 l695_9 l695_10 H locs hP hD hS ls hl hok
      rw [p_X5_isSame_L695] at hok
      refine lv_iload hx hb dX5_isSame_695 (lv_at hl 8 rfl) ?_
      refine lv_aload_n hx hb dX5_isSame_697 rfl (lv_at hl 0 rfl) ?_
      refine va_get (D := (dC, dI)) (ci := 5) (v := .ref g11) (C := RX5) (T := TX5) (N := 14) hx hb hts inX5 hown hK hP 28 rfl rfl 11 (by decide) (hts _ qf_X5_30) (fun _ h9 => h9) rfl dX5_isSame_698 ?_
      refine va_alen (v := (nI uG.2.2.2.2.2.2.2.2.2.2.2.1.1)) hx hb hK hP 33 2 rfl rfl rfl dX5_isSame_701 ?_
      refine lv_icmp_ge (tgt := 849) hx hb dX5_isSame_702 (by decide) (fun hc => ?_) (fun hc => ?_)
      · have hok := ip hok hc
        refine lv_aload_n hx hb dX5_isSame_849 rfl (lv_at hl 1 rfl) ?_
        obtain ⟨v51, hc51, hok⟩ := bd_some hok
        refine cRVi (ci := 4) (q0 := 0) [] S hK2 (va_Pmid (wa := []) hP) (c_X4_mostThrilling l dC dI cI cZ n0 h0 h3 h4 h5 h6 c0 c8 c9 c10 c11 c12 c13 t0 t8 t9 t10 t11 t12 t13 i0 i1 i2 i3 i4 m0 m1 m2 uH uC uT uI uM hc51) (lw_V qm_X5_182 qi_X4_mostThrilling qs_X4_mostThrilling qn_X4 qc_X4_mostThrilling) hd_X4_mostThrilling ⟨rfl, rfl⟩ ⟨Nat.le_of_ble_eq_true rfl, Nat.le_of_ble_eq_true rfl⟩ ⟨Nat.le_of_ble_eq_true rfl, Nat.le_of_ble_eq_true rfl⟩ rfl rfl rfl hl.1 (Nat.le_of_ble_eq_true rfl) rfl dX5_isSame_850 ?_
        refine lv_iload hx hb dX5_isSame_853 (lv_at hl 2 rfl) ?_
        refine lv_icmp_ne (tgt := 928) hx hb dX5_isSame_855 (by decide) (fun hc => ?_) (fun hc => ?_)
        · have hok := iq hok hc
          refine lv_iconst (v := (0 : Int32)) hx hb dX5_isSame_928 (by decide) ?_
          have hok := Option.some.inj hok
          subst hok
          exact eAz S hr hlk (by decide) rfl (g7, g8, g9, g10, g11, g12, G9, G10, G11, G12) (nx_P hP) (nx_D hD) hS (Nat.le_of_ble_eq_true rfl) (Nat.le_of_ble_eq_true rfl) dX5_isSame_929
        · have hok := ip hok hc
          refine lv_aload_n hx hb dX5_isSame_858 rfl (lv_at hl 1 rfl) ?_
          obtain ⟨v52, hc52, hok⟩ := bd_some hok
          refine cRVi (ci := 4) (q0 := 0) [] S hK2 (va_Pmid (wa := []) hP) (c_X4_longestWait l dC dI cI cZ n0 h0 h3 h4 h5 h6 c0 c8 c9 c10 c11 c12 c13 t0 t8 t9 t10 t11 t12 t13 i0 i1 i2 i3 i4 m0 m1 m2 uH uC uT uI uM hc52) (lw_V qm_X5_185 qi_X4_longestWait qs_X4_longestWait qn_X4 qc_X4_longestWait) hd_X4_longestWait ⟨rfl, rfl⟩ ⟨Nat.le_of_ble_eq_true rfl, Nat.le_of_ble_eq_true rfl⟩ ⟨Nat.le_of_ble_eq_true rfl, Nat.le_of_ble_eq_true rfl⟩ rfl rfl rfl hl.1 (Nat.le_of_ble_eq_true rfl) rfl dX5_isSame_859 ?_
          refine lv_iload hx hb dX5_isSame_862 (lv_at hl 3 rfl) ?_
          refine lv_icmp_ne (tgt := 928) hx hb dX5_isSame_864 (by decide) (fun hc => ?_) (fun hc => ?_)
          · have hok := iq hok hc
            refine lv_iconst (v := (0 : Int32)) hx hb dX5_isSame_928 (by decide) ?_
            have hok := Option.some.inj hok
            subst hok
            exact eAz S hr hlk (by decide) rfl (g7, g8, g9, g10, g11, g12, G9, G10, G11, G12) (nx_P hP) (nx_D hD) hS (Nat.le_of_ble_eq_true rfl) (Nat.le_of_ble_eq_true rfl) dX5_isSame_929
          · have hok := ip hok hc
            refine lv_aload_n hx hb dX5_isSame_867 rfl (lv_at hl 1 rfl) ?_
            obtain ⟨v53, hc53, hok⟩ := bd_some hok
            refine cRVi (ci := 4) (q0 := 0) [] S hK2 (va_Pmid (wa := []) hP) (c_X4_climbs l dC dI cI cZ n0 h0 h3 h4 h5 h6 c0 c8 c9 c10 c11 c12 c13 t0 t8 t9 t10 t11 t12 t13 i0 i1 i2 i3 i4 m0 m1 m2 uH uC uT uI uM hc53) (lw_V qm_X5_188 qi_X4_climbs qs_X4_climbs qn_X4 qc_X4_climbs) hd_X4_climbs ⟨rfl, rfl⟩ ⟨Nat.le_of_ble_eq_true rfl, Nat.le_of_ble_eq_true rfl⟩ ⟨Nat.le_of_ble_eq_true rfl, Nat.le_of_ble_eq_true rfl⟩ rfl rfl rfl hl.1 (Nat.le_of_ble_eq_true rfl) rfl dX5_isSame_868 ?_
            refine lv_iload hx hb dX5_isSame_871 (lv_at hl 4 rfl) ?_
            refine lv_icmp_ne (tgt := 928) hx hb dX5_isSame_873 (by decide) (fun hc => ?_) (fun hc => ?_)
            · have hok := iq hok hc
              refine lv_iconst (v := (0 : Int32)) hx hb dX5_isSame_928 (by decide) ?_
              have hok := Option.some.inj hok
              subst hok
              exact eAz S hr hlk (by decide) rfl (g7, g8, g9, g10, g11, g12, G9, G10, G11, G12) (nx_P hP) (nx_D hD) hS (Nat.le_of_ble_eq_true rfl) (Nat.le_of_ble_eq_true rfl) dX5_isSame_929
            · have hok := ip hok hc
              refine lv_aload_n hx hb dX5_isSame_876 rfl (lv_at hl 1 rfl) ?_
              obtain ⟨v54, hc54, hok⟩ := bd_some hok
              refine cRVi (ci := 4) (q0 := 0) [] S hK2 (va_Pmid (wa := []) hP) (c_X4_warmest l dC dI cI cZ n0 h0 h3 h4 h5 h6 c0 c8 c9 c10 c11 c12 c13 t0 t8 t9 t10 t11 t12 t13 i0 i1 i2 i3 i4 m0 m1 m2 uH uC uT uI uM hc54) (lw_V qm_X5_191 qi_X4_warmest qs_X4_warmest qn_X4 qc_X4_warmest) hd_X4_warmest ⟨rfl, rfl⟩ ⟨Nat.le_of_ble_eq_true rfl, Nat.le_of_ble_eq_true rfl⟩ ⟨Nat.le_of_ble_eq_true rfl, Nat.le_of_ble_eq_true rfl⟩ rfl rfl rfl hl.1 (Nat.le_of_ble_eq_true rfl) rfl dX5_isSame_877 ?_
              refine lv_iload hx hb dX5_isSame_880 (lv_at hl 5 rfl) ?_
              refine lv_icmp_ne (tgt := 928) hx hb dX5_isSame_882 (by decide) (fun hc => ?_) (fun hc => ?_)
              · have hok := iq hok hc
                refine lv_iconst (v := (0 : Int32)) hx hb dX5_isSame_928 (by decide) ?_
                have hok := Option.some.inj hok
                subst hok
                exact eAz S hr hlk (by decide) rfl (g7, g8, g9, g10, g11, g12, G9, G10, G11, G12) (nx_P hP) (nx_D hD) hS (Nat.le_of_ble_eq_true rfl) (Nat.le_of_ble_eq_true rfl) dX5_isSame_929
              · have hok := ip hok hc
                refine lv_aload_n hx hb dX5_isSame_885 rfl (lv_at hl 1 rfl) ?_
                obtain ⟨v55, hc55, hok⟩ := bd_some hok
                refine cRVi (ci := 4) (q0 := 0) [] S hK2 (va_Pmid (wa := []) hP) (c_X4_kindest l dC dI cI cZ n0 h0 h3 h4 h5 h6 c0 c8 c9 c10 c11 c12 c13 t0 t8 t9 t10 t11 t12 t13 i0 i1 i2 i3 i4 m0 m1 m2 uH uC uT uI uM hc55) (lw_V qm_X5_194 qi_X4_kindest qs_X4_kindest qn_X4 qc_X4_kindest) hd_X4_kindest ⟨rfl, rfl⟩ ⟨Nat.le_of_ble_eq_true rfl, Nat.le_of_ble_eq_true rfl⟩ ⟨Nat.le_of_ble_eq_true rfl, Nat.le_of_ble_eq_true rfl⟩ rfl rfl rfl hl.1 (Nat.le_of_ble_eq_true rfl) rfl dX5_isSame_886 ?_
                refine lv_iload hx hb dX5_isSame_889 (lv_at hl 6 rfl) ?_
                refine lv_icmp_ne (tgt := 928) hx hb dX5_isSame_891 (by decide) (fun hc => ?_) (fun hc => ?_)
                · have hok := iq hok hc
                  refine lv_iconst (v := (0 : Int32)) hx hb dX5_isSame_928 (by decide) ?_
                  have hok := Option.some.inj hok
                  subst hok
                  exact eAz S hr hlk (by decide) rfl (g7, g8, g9, g10, g11, g12, G9, G10, G11, G12) (nx_P hP) (nx_D hD) hS (Nat.le_of_ble_eq_true rfl) (Nat.le_of_ble_eq_true rfl) dX5_isSame_929
                · have hok := ip hok hc
                  refine lv_aload_n hx hb dX5_isSame_894 rfl (lv_at hl 1 rfl) ?_
                  obtain ⟨v56, hc56, hok⟩ := bd_some hok
                  refine cRVd (ci := 4) (q0 := 0) [] S hK2 (va_Pmid (wa := []) hP) (c_X4_meanWarmth l dC dI cI cZ n0 h0 h3 h4 h5 h6 c0 c8 c9 c10 c11 c12 c13 t0 t8 t9 t10 t11 t12 t13 i0 i1 i2 i3 i4 m0 m1 m2 uH uC uT uI uM hc56) (lw_V qm_X5_197 qi_X4_meanWarmth qs_X4_meanWarmth qn_X4 qc_X4_meanWarmth) hd_X4_meanWarmth ⟨rfl, rfl⟩ ⟨Nat.le_of_ble_eq_true rfl, Nat.le_of_ble_eq_true rfl⟩ ⟨Nat.le_of_ble_eq_true rfl, Nat.le_of_ble_eq_true rfl⟩ rfl rfl rfl hl.1 (Nat.le_of_ble_eq_true rfl) rfl dX5_isSame_895 ?_
                  refine lv_aload_n hx hb dX5_isSame_898 rfl (lv_at hl 0 rfl) ?_
                  obtain ⟨v57, hc57, hok⟩ := bd_some hok
                  refine cRVi (ci := 5) (q0 := 0) [] S hK (va_Pmid hP) (c_X5_subscribers l dC dI cI cZ cJ g0 g7 g8 g9 g10 g11 g12 G9 G10 G11 G12 uG hc57) (lw_V qm_X5_114 qi_X5_subscribers qs_X5_subscribers qn_X5 qc_X5_subscribers) hd_X5_subscribers ⟨rfl, rfl⟩ ⟨Nat.le_of_ble_eq_true rfl, Nat.le_of_ble_eq_true rfl⟩ ⟨Nat.le_of_ble_eq_true rfl, Nat.le_of_ble_eq_true rfl⟩ rfl rfl rfl hl.1 (Nat.le_of_ble_eq_true rfl) rfl dX5_isSame_899 ?_
                  refine lv_if_ne (tgt := 909) hx hb dX5_isSame_902 (by decide) (fun hc => ?_) (fun hc => ?_)
                  · have hok := iq hok hc
                    refine lv_aload_n hx hb dX5_isSame_909 rfl (lv_at hl 0 rfl) ?_
                    obtain ⟨v58, hc58, hok⟩ := bd_some hok
                    refine cRVi (ci := 5) (q0 := 0) [] S hK (va_Pmid hP) (c_X5_warmth l dC dI cI cZ cJ g0 g7 g8 g9 g10 g11 g12 G9 G10 G11 G12 uG hc58) (lw_V qm_X5_201 qi_X5_warmth qs_X5_warmth qn_X5 qc_X5_warmth) hd_X5_warmth ⟨rfl, rfl⟩ ⟨Nat.le_of_ble_eq_true rfl, Nat.le_of_ble_eq_true rfl⟩ ⟨Nat.le_of_ble_eq_true rfl, Nat.le_of_ble_eq_true rfl⟩ rfl rfl rfl hl.1 (Nat.le_of_ble_eq_true rfl) rfl dX5_isSame_910 ?_
                    refine lv_i2d hx hb dX5_isSame_913 ?_
                    refine lv_aload_n hx hb dX5_isSame_914 rfl (lv_at hl 0 rfl) ?_
                    obtain ⟨v59, hc59, hok⟩ := bd_some hok
                    refine cRVi (ci := 5) (q0 := 0) [] S hK (va_Pmid hP) (c_X5_subscribers l dC dI cI cZ cJ g0 g7 g8 g9 g10 g11 g12 G9 G10 G11 G12 uG hc59) (lw_V qm_X5_114 qi_X5_subscribers qs_X5_subscribers qn_X5 qc_X5_subscribers) hd_X5_subscribers ⟨rfl, rfl⟩ ⟨Nat.le_of_ble_eq_true rfl, Nat.le_of_ble_eq_true rfl⟩ ⟨Nat.le_of_ble_eq_true rfl, Nat.le_of_ble_eq_true rfl⟩ rfl rfl rfl hl.1 (Nat.le_of_ble_eq_true rfl) rfl dX5_isSame_915 ?_
                    refine lv_i2d hx hb dX5_isSame_918 ?_
                    obtain ⟨hn60, hok⟩ := gq_some hok
                    refine lv_ddiv hx hb dX5_isSame_919 hn60 ?_
                    exact J920 g7 g8 g9 g10 g11 g12 G9 G10 G11 G12 (FP.ddiv (FP.i2d v58) (FP.i2d v59)) v56 _ _ hP hD hS _ (lv_sub hl [] rfl) hok
                  · have hok := ip hok hc
                    refine lv_dconst0 hx hb dX5_isSame_905 ?_
                    refine lv_goto (tgt := 920) hx hb dX5_isSame_906 (by decide) ?_
                    exact J920 g7 g8 g9 g10 g11 g12 G9 G10 G11 G12 FP.dconst0 v56 _ _ hP hD hS _ (lv_sub hl [] rfl) hok
      · have hok := iq hok hc
        refine lv_iconst (v := (0 : Int32)) hx hb dX5_isSame_705 (by decide) ?_
        refine lv_istore (lv' := [(11, .int (0 : Int32)), (0, .ref g0), (1, .ref n0), (4, .int l695_4), (5, .int l695_5), (6, .int l695_6), (7, .int l695_7), (8, .int l695_8), (9, .int l695_9), (10, .int l695_10)]) hx hb dX5_isSame_706 hl (by decide) rfl (fun ls hl => ?_)
        refine lv_iconst (v := (-1 : Int32)) hx hb dX5_isSame_708 (by decide) ?_
        refine lv_istore (lv' := [(12, .int (-1 : Int32)), (11, .int (0 : Int32)), (0, .ref g0), (1, .ref n0), (4, .int l695_4), (5, .int l695_5), (6, .int l695_6), (7, .int l695_7), (8, .int l695_8), (9, .int l695_9), (10, .int l695_10)]) hx hb dX5_isSame_709 hl (by decide) rfl (fun ls hl => ?_)
        refine lv_iconst (v := (0 : Int32)) hx hb dX5_isSame_711 (by decide) ?_
        refine lv_istore (lv' := [(13, .int (0 : Int32)), (12, .int (-1 : Int32)), (11, .int (0 : Int32)), (0, .ref g0), (1, .ref n0), (4, .int l695_4), (5, .int l695_5), (6, .int l695_6), (7, .int l695_7), (8, .int l695_8), (9, .int l695_9), (10, .int l695_10)]) hx hb dX5_isSame_712 hl (by decide) rfl (fun ls hl => ?_)
        exact L714 200 g7 g8 g9 g10 g11 g12 G9 G10 G11 G12 l695_4 l695_5 l695_6 l695_7 l695_8 l695_9 l695_10 (0 : Int32) (-1 : Int32) (0 : Int32) _ _ hP hD hS _ (lv_sub hl [3, 4, 5, 6, 7, 8, 9, 10, 11, 2, 1, 0] rfl) hok
  have L573 : ∀ n573 : Nat, ∀ (g7 : Nat) (g8 : Nat) (g9 : Nat) (g10 : Nat) (g11 : Nat) (g12 : Nat) (G9 : (Nat → Nat)) (G10 : (Nat → Nat)) (G11 : (Nat → Nat)) (G12 : (Nat → Nat)) (l573_4 : Int32) (l573_5 : Int32) (l573_6 : Int32) (l573_7 : Int32) (l573_8 : Int32) (H : Heap) (locs : List Loc) (hP : va_P (dC, dI) vwCl ((wN cI cZ n0 h0 h3 h4 h5 h6 c0 c8 c9 c10 c11 c12 c13 t0 t8 t9 t10 t11 t12 t13 i0 i1 i2 i3 i4 m0 m1 m2 uH uC uT uI uM) ++ (wX5 cI cZ cJ g0 g7 g8 g9 g10 g11 g12 G9 G10 G11 G12 uG ++ ([] : va_W))) H) (hD : va_D A ((wN cI cZ n0 h0 h3 h4 h5 h6 c0 c8 c9 c10 c11 c12 c13 t0 t8 t9 t10 t11 t12 t13 i0 i1 i2 i3 i4 m0 m1 m2 uH uC uT uI uM) ++ (wX5 cI cZ cJ g0 g7 g8 g9 g10 g11 g12 G9 G10 G11 G12 uG ++ ([] : va_W)))) (hS : va_S A s.heap H locs) (ls : Array Slot) (hl : lv_has ls 15 [(0, .ref g0), (1, .ref n0), (4, .int l573_4), (5, .int l573_5), (6, .int l573_6), (7, .int l573_7), (8, .int l573_8)]) (hok : p_X5_isSame_L573 n573 uH uC uT uI uM uG l573_4 l573_5 l573_6 l573_7 l573_8 = some z), W p l e { frames := 5, cells := 1, slots := 8, locals := 115 } s m args below meth c H locs 1 8 (MQ below (va_Qi (fun (r : Int32) (_ : (Nat × Nat × Nat × Nat × Nat × Nat × (Nat → Nat) × (Nat → Nat) × (Nat → Nat) × (Nat → Nat))) => r = z) (fun a9 t => va_P (dC, dI) vwCl ((wN cI cZ n0 h0 h3 h4 h5 h6 c0 c8 c9 c10 c11 c12 c13 t0 t8 t9 t10 t11 t12 t13 i0 i1 i2 i3 i4 m0 m1 m2 uH uC uT uI uM) ++ wX5 cI cZ cJ g0 a9.1 a9.2.1 a9.2.2.1 a9.2.2.2.1 a9.2.2.2.2.1 a9.2.2.2.2.2.1 a9.2.2.2.2.2.2.1 a9.2.2.2.2.2.2.2.1 a9.2.2.2.2.2.2.2.2.1 a9.2.2.2.2.2.2.2.2.2 uG) t.heap ∧ va_D A ((wN cI cZ n0 h0 h3 h4 h5 h6 c0 c8 c9 c10 c11 c12 c13 t0 t8 t9 t10 t11 t12 t13 i0 i1 i2 i3 i4 m0 m1 m2 uH uC uT uI uM) ++ wX5 cI cZ cJ g0 a9.1 a9.2.1 a9.2.2.1 a9.2.2.2.1 a9.2.2.2.2.1 a9.2.2.2.2.2.1 a9.2.2.2.2.2.2.1 a9.2.2.2.2.2.2.2.1 a9.2.2.2.2.2.2.2.2.1 a9.2.2.2.2.2.2.2.2.2 uG)) A) args s 1 8 A) (F0 m 573 ls []) := by
    intro n573
    induction n573 with
    | zero =>
      intro g7 g8 g9 g10 g11 g12 G9 G10 G11 G12 l573_4 l573_5 l573_6 l573_7 l573_8 H locs hP hD hS ls hl hok
      rw [p_X5_isSame_L573] at hok
      cases hok
    | succ n573 ih573 =>
      have J675 : ∀ (g7 : Nat) (g8 : Nat) (g9 : Nat) (g10 : Nat) (g11 : Nat) (g12 : Nat) (G9 : (Nat → Nat)) (G10 : (Nat → Nat)) (G11 : (Nat → Nat)) (G12 : (Nat → Nat)) (l675_4 : Int32) (l675_5 : Int32) (l675_6 : Int32) (l675_7 : Int32) (l675_8 : Int32) (s675_0 : Int32) (s675_1 : Int32) (H : Heap) (locs : List Loc) (hP : va_P (dC, dI) vwCl ((wN cI cZ n0 h0 h3 h4 h5 h6 c0 c8 c9 c10 c11 c12 c13 t0 t8 t9 t10 t11 t12 t13 i0 i1 i2 i3 i4 m0 m1 m2 uH uC uT uI uM) ++ (wX5 cI cZ cJ g0 g7 g8 g9 g10 g11 g12 G9 G10 G11 G12 uG ++ ([] : va_W))) H) (hD : va_D A ((wN cI cZ n0 h0 h3 h4 h5 h6 c0 c8 c9 c10 c11 c12 c13 t0 t8 t9 t10 t11 t12 t13 i0 i1 i2 i3 i4 m0 m1 m2 uH uC uT uI uM) ++ (wX5 cI cZ cJ g0 g7 g8 g9 g10 g11 g12 G9 G10 G11 G12 uG ++ ([] : va_W)))) (hS : va_S A s.heap H locs) (ls : Array Slot) (hl : lv_has ls 15 [(0, .ref g0), (1, .ref n0), (4, .int l675_4), (5, .int l675_5), (6, .int l675_6), (7, .int l675_7), (8, .int l675_8)]) (hok : p_X5_isSame_J675 (p_X5_isSame_L573 n573) uH uC uT uI uM uG l675_4 l675_5 l675_6 l675_7 l675_8 s675_0 s675_1 = some z), W p l e { frames := 5, cells := 1, slots := 8, locals := 115 } s m args below meth c H locs 1 8 (MQ below (va_Qi (fun (r : Int32) (_ : (Nat × Nat × Nat × Nat × Nat × Nat × (Nat → Nat) × (Nat → Nat) × (Nat → Nat) × (Nat → Nat))) => r = z) (fun a9 t => va_P (dC, dI) vwCl ((wN cI cZ n0 h0 h3 h4 h5 h6 c0 c8 c9 c10 c11 c12 c13 t0 t8 t9 t10 t11 t12 t13 i0 i1 i2 i3 i4 m0 m1 m2 uH uC uT uI uM) ++ wX5 cI cZ cJ g0 a9.1 a9.2.1 a9.2.2.1 a9.2.2.2.1 a9.2.2.2.2.1 a9.2.2.2.2.2.1 a9.2.2.2.2.2.2.1 a9.2.2.2.2.2.2.2.1 a9.2.2.2.2.2.2.2.2.1 a9.2.2.2.2.2.2.2.2.2 uG) t.heap ∧ va_D A ((wN cI cZ n0 h0 h3 h4 h5 h6 c0 c8 c9 c10 c11 c12 c13 t0 t8 t9 t10 t11 t12 t13 i0 i1 i2 i3 i4 m0 m1 m2 uH uC uT uI uM) ++ wX5 cI cZ cJ g0 a9.1 a9.2.1 a9.2.2.1 a9.2.2.2.1 a9.2.2.2.2.1 a9.2.2.2.2.2.1 a9.2.2.2.2.2.2.1 a9.2.2.2.2.2.2.2.1 a9.2.2.2.2.2.2.2.2.1 a9.2.2.2.2.2.2.2.2.2 uG)) A) args s 1 8 A) (F0 m 675 ls [.int s675_0, .int s675_1]) := by
        intro g7 g8 g9 g10 g11 g12 G9 G10 G11 G12 l675_4 l675_5 l675_6 l675_7 l675_8 s675_0 s675_1 H locs hP hD hS ls hl hok
        unfold p_X5_isSame_J675 at hok
        refine lv_icmp_eq (tgt := 680) hx hb dX5_isSame_675 (by decide) (fun hc => ?_) (fun hc => ?_)
        · have hok := ip hok hc
          refine lv_iinc (v := (l675_8 + 1)) (lv' := [(8, .int (l675_8 + 1)), (0, .ref g0), (1, .ref n0), (4, .int l675_4), (5, .int l675_5), (6, .int l675_6), (7, .int l675_7)]) hx hb dX5_isSame_680 hl (k := 6) rfl rfl (by decide) rfl (fun ls hl => ?_)
          refine lv_goto (tgt := 573) hx hb dX5_isSame_683 (by decide) ?_
          exact ih573 g7 g8 g9 g10 g11 g12 G9 G10 G11 G12 l675_4 l675_5 l675_6 l675_7 (l675_8 + 1) _ _ hP hD hS _ (lv_sub hl [1, 2, 3, 4, 5, 6, 0] rfl) hok
        · have hok := iq hok hc
          refine lv_iconst (v := (0 : Int32)) hx hb dX5_isSame_678 (by decide) ?_
          have hok := Option.some.inj hok
          subst hok
          exact eAz S hr hlk (by decide) rfl (g7, g8, g9, g10, g11, g12, G9, G10, G11, G12) (nx_P hP) (nx_D hD) hS (Nat.le_of_ble_eq_true rfl) (Nat.le_of_ble_eq_true rfl) dX5_isSame_679
      have J625 : ∀ (g7 : Nat) (g8 : Nat) (g9 : Nat) (g10 : Nat) (g11 : Nat) (g12 : Nat) (G9 : (Nat → Nat)) (G10 : (Nat → Nat)) (G11 : (Nat → Nat)) (G12 : (Nat → Nat)) (w625_9 : Nat) (l625_4 : Int32) (l625_5 : Int32) (l625_6 : Int32) (l625_7 : Int32) (l625_8 : Int32) (H : Heap) (locs : List Loc) (hP : va_P (dC, dI) vwCl ((wN cI cZ n0 h0 h3 h4 h5 h6 c0 c8 c9 c10 c11 c12 c13 t0 t8 t9 t10 t11 t12 t13 i0 i1 i2 i3 i4 m0 m1 m2 uH uC uT uI uM) ++ (wX5 cI cZ cJ g0 g7 g8 g9 g10 g11 g12 G9 G10 G11 G12 uG ++ ([] : va_W))) H) (hD : va_D A ((wN cI cZ n0 h0 h3 h4 h5 h6 c0 c8 c9 c10 c11 c12 c13 t0 t8 t9 t10 t11 t12 t13 i0 i1 i2 i3 i4 m0 m1 m2 uH uC uT uI uM) ++ (wX5 cI cZ cJ g0 g7 g8 g9 g10 g11 g12 G9 G10 G11 G12 uG ++ ([] : va_W)))) (hS : va_S A s.heap H locs) (ls : Array Slot) (hl : lv_has ls 15 [(0, .ref g0), (1, .ref n0), (4, .int l625_4), (5, .int l625_5), (6, .int l625_6), (7, .int l625_7), (8, .int l625_8), (9, .ref (G10 w625_9))]) (hok : p_X5_isSame_J625 (p_X5_isSame_L573 n573) uH uC uT uI uM uG w625_9 l625_4 l625_5 l625_6 l625_7 l625_8 = some z), W p l e { frames := 5, cells := 1, slots := 8, locals := 115 } s m args below meth c H locs 1 8 (MQ below (va_Qi (fun (r : Int32) (_ : (Nat × Nat × Nat × Nat × Nat × Nat × (Nat → Nat) × (Nat → Nat) × (Nat → Nat) × (Nat → Nat))) => r = z) (fun a9 t => va_P (dC, dI) vwCl ((wN cI cZ n0 h0 h3 h4 h5 h6 c0 c8 c9 c10 c11 c12 c13 t0 t8 t9 t10 t11 t12 t13 i0 i1 i2 i3 i4 m0 m1 m2 uH uC uT uI uM) ++ wX5 cI cZ cJ g0 a9.1 a9.2.1 a9.2.2.1 a9.2.2.2.1 a9.2.2.2.2.1 a9.2.2.2.2.2.1 a9.2.2.2.2.2.2.1 a9.2.2.2.2.2.2.2.1 a9.2.2.2.2.2.2.2.2.1 a9.2.2.2.2.2.2.2.2.2 uG) t.heap ∧ va_D A ((wN cI cZ n0 h0 h3 h4 h5 h6 c0 c8 c9 c10 c11 c12 c13 t0 t8 t9 t10 t11 t12 t13 i0 i1 i2 i3 i4 m0 m1 m2 uH uC uT uI uM) ++ wX5 cI cZ cJ g0 a9.1 a9.2.1 a9.2.2.1 a9.2.2.2.1 a9.2.2.2.2.1 a9.2.2.2.2.2.1 a9.2.2.2.2.2.2.1 a9.2.2.2.2.2.2.2.1 a9.2.2.2.2.2.2.2.2.1 a9.2.2.2.2.2.2.2.2.2 uG)) A) args s 1 8 A) (F0 m 625 ls []) := by
        intro g7 g8 g9 g10 g11 g12 G9 G10 G11 G12 w625_9 l625_4 l625_5 l625_6 l625_7 l625_8 H locs hP hD hS ls hl hok
        unfold p_X5_isSame_J625 at hok
        refine lv_aload_n hx hb dX5_isSame_625 rfl (lv_at hl 1 rfl) ?_
        refine lv_iload hx hb dX5_isSame_626 (lv_at hl 6 rfl) ?_
        obtain ⟨v61, hc61, hok⟩ := bd_some hok
        refine cRVi (ci := 4) (q0 := 0) [.int l625_8] S hK2 (va_Pmid (wa := []) hP) (c_X4_tasteOf l dC dI cI cZ n0 h0 h3 h4 h5 h6 c0 c8 c9 c10 c11 c12 c13 t0 t8 t9 t10 t11 t12 t13 i0 i1 i2 i3 i4 m0 m1 m2 uH uC uT uI uM l625_8 hc61) (lw_V qm_X5_161 qi_X4_tasteOf qs_X4_tasteOf qn_X4 qc_X4_tasteOf) hd_X4_tasteOf ⟨rfl, rfl⟩ ⟨Nat.le_of_ble_eq_true rfl, Nat.le_of_ble_eq_true rfl⟩ ⟨Nat.le_of_ble_eq_true rfl, Nat.le_of_ble_eq_true rfl⟩ rfl rfl rfl hl.1 (Nat.le_of_ble_eq_true rfl) rfl dX5_isSame_628 ?_
        refine lv_aload hx hb dX5_isSame_631 (lv_at hl 7 rfl) ?_
        refine lv_iconst (v := (0 : Int32)) hx hb dX5_isSame_633 (by decide) ?_
        obtain ⟨hr62, hok⟩ := gN_some hok
        obtain ⟨hi63, hok⟩ := gd_some hok
        refine rl10 hx hb hK 0 rfl hP (k := w625_9) (j := 0) hr62 rfl (by decide) hi63 dX5_isSame_634 ?_
        refine lv_icmp_ne (tgt := 678) hx hb dX5_isSame_635 (by decide) (fun hc => ?_) (fun hc => ?_)
        · have hok := iq hok hc
          refine lv_iconst (v := (0 : Int32)) hx hb dX5_isSame_678 (by decide) ?_
          have hok := Option.some.inj hok
          subst hok
          exact eAz S hr hlk (by decide) rfl (g7, g8, g9, g10, g11, g12, G9, G10, G11, G12) (nx_P hP) (nx_D hD) hS (Nat.le_of_ble_eq_true rfl) (Nat.le_of_ble_eq_true rfl) dX5_isSame_679
        · have hok := ip hok hc
          refine lv_aload_n hx hb dX5_isSame_638 rfl (lv_at hl 1 rfl) ?_
          refine lv_iload hx hb dX5_isSame_639 (lv_at hl 6 rfl) ?_
          obtain ⟨v64, hc64, hok⟩ := bd_some hok
          refine cRVi (ci := 4) (q0 := 0) [.int l625_8] S hK2 (va_Pmid (wa := []) hP) (c_X4_warmthOf l dC dI cI cZ n0 h0 h3 h4 h5 h6 c0 c8 c9 c10 c11 c12 c13 t0 t8 t9 t10 t11 t12 t13 i0 i1 i2 i3 i4 m0 m1 m2 uH uC uT uI uM l625_8 hc64) (lw_V qm_X5_164 qi_X4_warmthOf qs_X4_warmthOf qn_X4 qc_X4_warmthOf) hd_X4_warmthOf ⟨rfl, rfl⟩ ⟨Nat.le_of_ble_eq_true rfl, Nat.le_of_ble_eq_true rfl⟩ ⟨Nat.le_of_ble_eq_true rfl, Nat.le_of_ble_eq_true rfl⟩ rfl rfl rfl hl.1 (Nat.le_of_ble_eq_true rfl) rfl dX5_isSame_641 ?_
          refine lv_aload hx hb dX5_isSame_644 (lv_at hl 7 rfl) ?_
          refine lv_iconst (v := (1 : Int32)) hx hb dX5_isSame_646 (by decide) ?_
          obtain ⟨hi65, hok⟩ := gd_some hok
          refine rl10 hx hb hK 0 rfl hP (k := w625_9) (j := 1) hr62 rfl (by decide) hi65 dX5_isSame_647 ?_
          refine lv_aload hx hb dX5_isSame_648 (lv_at hl 7 rfl) ?_
          refine lv_iconst (v := (2 : Int32)) hx hb dX5_isSame_650 (by decide) ?_
          obtain ⟨hi66, hok⟩ := gd_some hok
          refine rl10 hx hb hK 0 rfl hP (k := w625_9) (j := 2) hr62 rfl (by decide) hi66 dX5_isSame_651 ?_
          refine lv_imul hx hb dX5_isSame_652 ?_
          refine lv_icmp_ne (tgt := 678) hx hb dX5_isSame_653 (by decide) (fun hc => ?_) (fun hc => ?_)
          · have hok := iq hok hc
            refine lv_iconst (v := (0 : Int32)) hx hb dX5_isSame_678 (by decide) ?_
            have hok := Option.some.inj hok
            subst hok
            exact eAz S hr hlk (by decide) rfl (g7, g8, g9, g10, g11, g12, G9, G10, G11, G12) (nx_P hP) (nx_D hD) hS (Nat.le_of_ble_eq_true rfl) (Nat.le_of_ble_eq_true rfl) dX5_isSame_679
          · have hok := ip hok hc
            refine lv_aload_n hx hb dX5_isSame_656 rfl (lv_at hl 1 rfl) ?_
            refine lv_iload hx hb dX5_isSame_657 (lv_at hl 6 rfl) ?_
            obtain ⟨v67, hc67, hok⟩ := bd_some hok
            refine cRVi (ci := 4) (q0 := 0) [.int l625_8] S hK2 (va_Pmid (wa := []) hP) (c_X4_isSubscriber l dC dI cI cZ n0 h0 h3 h4 h5 h6 c0 c8 c9 c10 c11 c12 c13 t0 t8 t9 t10 t11 t12 t13 i0 i1 i2 i3 i4 m0 m1 m2 uH uC uT uI uM l625_8 hc67) (lw_V qm_X5_167 qi_X4_isSubscriber qs_X4_isSubscriber qn_X4 qc_X4_isSubscriber) hd_X4_isSubscriber ⟨rfl, rfl⟩ ⟨Nat.le_of_ble_eq_true rfl, Nat.le_of_ble_eq_true rfl⟩ ⟨Nat.le_of_ble_eq_true rfl, Nat.le_of_ble_eq_true rfl⟩ rfl rfl rfl hl.1 (Nat.le_of_ble_eq_true rfl) rfl dX5_isSame_659 ?_
            refine lv_aload hx hb dX5_isSame_662 (lv_at hl 7 rfl) ?_
            refine lv_iconst (v := (2 : Int32)) hx hb dX5_isSame_664 (by decide) ?_
            refine rl10 hx hb hK 0 rfl hP (k := w625_9) (j := 2) hr62 rfl (by decide) hi66 dX5_isSame_665 ?_
            refine lv_iconst (v := (1 : Int32)) hx hb dX5_isSame_666 (by decide) ?_
            refine lv_icmp_ne (tgt := 674) hx hb dX5_isSame_667 (by decide) (fun hc => ?_) (fun hc => ?_)
            · have hok := iq hok hc
              refine lv_iconst (v := (0 : Int32)) hx hb dX5_isSame_674 (by decide) ?_
              exact J675 g7 g8 g9 g10 g11 g12 G9 G10 G11 G12 l625_4 l625_5 l625_6 l625_7 l625_8 (0 : Int32) v67 _ _ hP hD hS _ (lv_sub hl [0, 1, 2, 3, 4, 5, 6] rfl) hok
            · have hok := ip hok hc
              refine lv_iconst (v := (1 : Int32)) hx hb dX5_isSame_670 (by decide) ?_
              refine lv_goto (tgt := 675) hx hb dX5_isSame_671 (by decide) ?_
              exact J675 g7 g8 g9 g10 g11 g12 G9 G10 G11 G12 l625_4 l625_5 l625_6 l625_7 l625_8 (1 : Int32) v67 _ _ hP hD hS _ (lv_sub hl [0, 1, 2, 3, 4, 5, 6] rfl) hok
      have J621 : ∀ (g7 : Nat) (g8 : Nat) (g9 : Nat) (g10 : Nat) (g11 : Nat) (g12 : Nat) (G9 : (Nat → Nat)) (G10 : (Nat → Nat)) (G11 : (Nat → Nat)) (G12 : (Nat → Nat)) (w621_9 : Nat) (l621_4 : Int32) (l621_5 : Int32) (l621_6 : Int32) (l621_8 : Int32) (H : Heap) (locs : List Loc) (hP : va_P (dC, dI) vwCl ((wN cI cZ n0 h0 h3 h4 h5 h6 c0 c8 c9 c10 c11 c12 c13 t0 t8 t9 t10 t11 t12 t13 i0 i1 i2 i3 i4 m0 m1 m2 uH uC uT uI uM) ++ (wX5 cI cZ cJ g0 g7 g8 g9 g10 g11 g12 G9 G10 G11 G12 uG ++ ([] : va_W))) H) (hD : va_D A ((wN cI cZ n0 h0 h3 h4 h5 h6 c0 c8 c9 c10 c11 c12 c13 t0 t8 t9 t10 t11 t12 t13 i0 i1 i2 i3 i4 m0 m1 m2 uH uC uT uI uM) ++ (wX5 cI cZ cJ g0 g7 g8 g9 g10 g11 g12 G9 G10 G11 G12 uG ++ ([] : va_W)))) (hS : va_S A s.heap H locs) (ls : Array Slot) (hl : lv_has ls 15 [(0, .ref g0), (1, .ref n0), (4, .int l621_4), (5, .int l621_5), (6, .int l621_6), (8, .int l621_8), (9, .ref (G10 w621_9))]) (hok : p_X5_isSame_J621 (p_X5_isSame_L573 n573) uH uC uT uI uM uG w621_9 l621_4 l621_5 l621_6 l621_8 = some z), W p l e { frames := 5, cells := 1, slots := 8, locals := 115 } s m args below meth c H locs 1 8 (MQ below (va_Qi (fun (r : Int32) (_ : (Nat × Nat × Nat × Nat × Nat × Nat × (Nat → Nat) × (Nat → Nat) × (Nat → Nat) × (Nat → Nat))) => r = z) (fun a9 t => va_P (dC, dI) vwCl ((wN cI cZ n0 h0 h3 h4 h5 h6 c0 c8 c9 c10 c11 c12 c13 t0 t8 t9 t10 t11 t12 t13 i0 i1 i2 i3 i4 m0 m1 m2 uH uC uT uI uM) ++ wX5 cI cZ cJ g0 a9.1 a9.2.1 a9.2.2.1 a9.2.2.2.1 a9.2.2.2.2.1 a9.2.2.2.2.2.1 a9.2.2.2.2.2.2.1 a9.2.2.2.2.2.2.2.1 a9.2.2.2.2.2.2.2.2.1 a9.2.2.2.2.2.2.2.2.2 uG) t.heap ∧ va_D A ((wN cI cZ n0 h0 h3 h4 h5 h6 c0 c8 c9 c10 c11 c12 c13 t0 t8 t9 t10 t11 t12 t13 i0 i1 i2 i3 i4 m0 m1 m2 uH uC uT uI uM) ++ wX5 cI cZ cJ g0 a9.1 a9.2.1 a9.2.2.1 a9.2.2.2.1 a9.2.2.2.2.1 a9.2.2.2.2.2.1 a9.2.2.2.2.2.2.1 a9.2.2.2.2.2.2.2.1 a9.2.2.2.2.2.2.2.2.1 a9.2.2.2.2.2.2.2.2.2 uG)) A) args s 1 8 A) (F0 m 621 ls []) := by
        intro g7 g8 g9 g10 g11 g12 G9 G10 G11 G12 w621_9 l621_4 l621_5 l621_6 l621_8 H locs hP hD hS ls hl hok
        unfold p_X5_isSame_J621 at hok
        refine lv_iload hx hb dX5_isSame_621 (lv_at hl 5 rfl) ?_
        refine lv_istore (lv' := [(7, .int l621_8), (0, .ref g0), (1, .ref n0), (4, .int l621_4), (5, .int l621_5), (6, .int l621_6), (8, .int l621_8), (9, .ref (G10 w621_9))]) hx hb dX5_isSame_623 hl (by decide) rfl (fun ls hl => ?_)
        exact J625 g7 g8 g9 g10 g11 g12 G9 G10 G11 G12 w621_9 l621_4 l621_5 l621_6 l621_8 l621_8 _ _ hP hD hS _ (lv_sub hl [1, 2, 3, 4, 5, 0, 6, 7] rfl) hok
      intro g7 g8 g9 g10 g11 g12 G9 G10 G11 G12 l573_4 l573_5 l573_6 l573_7 l573_8 H locs hP hD hS ls hl hok
      rw [p_X5_isSame_L573] at hok
      refine lv_iload hx hb dX5_isSame_573 (lv_at hl 6 rfl) ?_
      refine lv_aload_n hx hb dX5_isSame_575 rfl (lv_at hl 0 rfl) ?_
      refine va_get (D := (dC, dI)) (ci := 5) (v := .ref g10) (C := RX5) (T := TX5) (N := 14) hx hb hts inX5 hown hK hP 28 rfl rfl 10 (by decide) (hts _ qf_X5_27) (fun _ h9 => h9) rfl dX5_isSame_576 ?_
      refine va_alen (v := (nI uG.2.2.2.2.2.2.2.2.2.2.1.1)) hx hb hK hP 32 2 rfl rfl rfl dX5_isSame_579 ?_
      refine lv_icmp_ge (tgt := 686) hx hb dX5_isSame_580 (by decide) (fun hc => ?_) (fun hc => ?_)
      · have hok := ip hok hc
        refine lv_iconst (v := (-1 : Int32)) hx hb dX5_isSame_686 (by decide) ?_
        refine lv_istore (lv' := [(8, .int (-1 : Int32)), (0, .ref g0), (1, .ref n0), (4, .int l573_4), (5, .int l573_5), (6, .int l573_6), (7, .int l573_7)]) hx hb dX5_isSame_687 hl (by decide) rfl (fun ls hl => ?_)
        refine lv_iconst (v := (-1 : Int32)) hx hb dX5_isSame_689 (by decide) ?_
        refine lv_istore (lv' := [(9, .int (-1 : Int32)), (8, .int (-1 : Int32)), (0, .ref g0), (1, .ref n0), (4, .int l573_4), (5, .int l573_5), (6, .int l573_6), (7, .int l573_7)]) hx hb dX5_isSame_690 hl (by decide) rfl (fun ls hl => ?_)
        refine lv_iconst (v := (0 : Int32)) hx hb dX5_isSame_692 (by decide) ?_
        refine lv_istore (lv' := [(10, .int (0 : Int32)), (9, .int (-1 : Int32)), (8, .int (-1 : Int32)), (0, .ref g0), (1, .ref n0), (4, .int l573_4), (5, .int l573_5), (6, .int l573_6), (7, .int l573_7)]) hx hb dX5_isSame_693 hl (by decide) rfl (fun ls hl => ?_)
        exact L695 200 g7 g8 g9 g10 g11 g12 G9 G10 G11 G12 l573_4 l573_5 l573_6 l573_7 (-1 : Int32) (-1 : Int32) (0 : Int32) _ _ hP hD hS _ (lv_sub hl [3, 4, 5, 6, 7, 8, 2, 1, 0] rfl) hok
      · have hok := iq hok hc
        refine lv_aload_n hx hb dX5_isSame_583 rfl (lv_at hl 0 rfl) ?_
        refine va_get (D := (dC, dI)) (ci := 5) (v := .ref g10) (C := RX5) (T := TX5) (N := 14) hx hb hts inX5 hown hK hP 28 rfl rfl 10 (by decide) (hts _ qf_X5_27) (fun _ h9 => h9) rfl dX5_isSame_584 ?_
        refine lv_iload hx hb dX5_isSame_587 (lv_at hl 6 rfl) ?_
        obtain ⟨hi42, hok⟩ := gd_some hok
        refine ra10 hx hb hK 2 rfl hP (j := l573_8.toNatClampNeg) rfl hi42 dX5_isSame_589 ?_
        refine lv_astore (lv' := [(9, .ref (G10 l573_8.toNatClampNeg)), (0, .ref g0), (1, .ref n0), (4, .int l573_4), (5, .int l573_5), (6, .int l573_6), (7, .int l573_7), (8, .int l573_8)]) hx hb dX5_isSame_590 hl (by decide) rfl (fun ls hl => ?_)
        refine lv_aload hx hb dX5_isSame_592 (lv_at hl 0 rfl) ?_
        refine lv_iconst (v := (2 : Int32)) hx hb dX5_isSame_594 (by decide) ?_
        obtain ⟨hi43, hok⟩ := gd_some hok
        refine rl10 hx hb hK 0 rfl hP (k := l573_8.toNatClampNeg) (j := 2) (vp_inL rfl hi42) rfl (by decide) hi43 dX5_isSame_595 ?_
        refine lv_iconst (v := (1 : Int32)) hx hb dX5_isSame_596 (by decide) ?_
        refine lv_icmp_ne (tgt := 625) hx hb dX5_isSame_597 (by decide) (fun hc => ?_) (fun hc => ?_)
        · have hok := iq hok hc
          exact J625 g7 g8 g9 g10 g11 g12 G9 G10 G11 G12 l573_8.toNatClampNeg l573_4 l573_5 l573_6 l573_7 l573_8 _ _ hP hD hS _ (lv_sub hl [1, 2, 3, 4, 5, 6, 7, 0] rfl) hok
        · have hok := ip hok hc
          refine lv_iload hx hb dX5_isSame_600 (lv_at hl 6 rfl) ?_
          refine lv_if_lt (tgt := 621) hx hb dX5_isSame_602 (by decide) (fun hc => ?_) (fun hc => ?_)
          · have hok := ip hok hc
            exact J621 g7 g8 g9 g10 g11 g12 G9 G10 G11 G12 l573_8.toNatClampNeg l573_4 l573_5 l573_6 l573_8 _ _ hP hD hS _ (lv_sub hl [1, 2, 3, 4, 5, 7, 0] rfl) hok
          · have hok := iq hok hc
            refine lv_aload hx hb dX5_isSame_605 (lv_at hl 0 rfl) ?_
            refine lv_iconst (v := (1 : Int32)) hx hb dX5_isSame_607 (by decide) ?_
            obtain ⟨hi44, hok⟩ := gd_some hok
            refine rl10 hx hb hK 0 rfl hP (k := l573_8.toNatClampNeg) (j := 1) (vp_inL rfl hi42) rfl (by decide) hi44 dX5_isSame_608 ?_
            refine lv_aload_n hx hb dX5_isSame_609 rfl (lv_at hl 1 rfl) ?_
            refine va_get (D := (dC, dI)) (ci := 5) (v := .ref g10) (C := RX5) (T := TX5) (N := 14) hx hb hts inX5 hown hK hP 28 rfl rfl 10 (by decide) (hts _ qf_X5_27) (fun _ h9 => h9) rfl dX5_isSame_610 ?_
            refine lv_iload hx hb dX5_isSame_613 (lv_at hl 6 rfl) ?_
            obtain ⟨hi45, hok⟩ := gd_some hok
            refine ra10 hx hb hK 2 rfl hP (j := l573_7.toNatClampNeg) rfl hi45 dX5_isSame_615 ?_
            refine lv_iconst (v := (1 : Int32)) hx hb dX5_isSame_616 (by decide) ?_
            obtain ⟨hi46, hok⟩ := gd_some hok
            refine rl10 hx hb hK 0 rfl hP (k := l573_7.toNatClampNeg) (j := 1) (vp_inL rfl hi45) rfl (by decide) hi46 dX5_isSame_617 ?_
            refine lv_icmp_le (tgt := 625) hx hb dX5_isSame_618 (by decide) (fun hc => ?_) (fun hc => ?_)
            · have hok := ip hok hc
              exact J625 g7 g8 g9 g10 g11 g12 G9 G10 G11 G12 l573_8.toNatClampNeg l573_4 l573_5 l573_6 l573_7 l573_8 _ _ hP hD hS _ (lv_sub hl [1, 2, 3, 4, 5, 6, 7, 0] rfl) hok
            · have hok := iq hok hc
              exact J621 g7 g8 g9 g10 g11 g12 G9 G10 G11 G12 l573_8.toNatClampNeg l573_4 l573_5 l573_6 l573_8 _ _ hP hD hS _ (lv_sub hl [1, 2, 3, 4, 5, 7, 0] rfl) hok
  have L409 : ∀ n409 : Nat, ∀ (g7 : Nat) (g8 : Nat) (g9 : Nat) (g10 : Nat) (g11 : Nat) (g12 : Nat) (G9 : (Nat → Nat)) (G10 : (Nat → Nat)) (G11 : (Nat → Nat)) (G12 : (Nat → Nat)) (l409_4 : Int32) (l409_5 : Int32) (l409_6 : Int32) (l409_7 : Int32) (H : Heap) (locs : List Loc) (hP : va_P (dC, dI) vwCl ((wN cI cZ n0 h0 h3 h4 h5 h6 c0 c8 c9 c10 c11 c12 c13 t0 t8 t9 t10 t11 t12 t13 i0 i1 i2 i3 i4 m0 m1 m2 uH uC uT uI uM) ++ (wX5 cI cZ cJ g0 g7 g8 g9 g10 g11 g12 G9 G10 G11 G12 uG ++ ([] : va_W))) H) (hD : va_D A ((wN cI cZ n0 h0 h3 h4 h5 h6 c0 c8 c9 c10 c11 c12 c13 t0 t8 t9 t10 t11 t12 t13 i0 i1 i2 i3 i4 m0 m1 m2 uH uC uT uI uM) ++ (wX5 cI cZ cJ g0 g7 g8 g9 g10 g11 g12 G9 G10 G11 G12 uG ++ ([] : va_W)))) (hS : va_S A s.heap H locs) (ls : Array Slot) (hl : lv_has ls 15 [(0, .ref g0), (1, .ref n0), (4, .int l409_4), (5, .int l409_5), (6, .int l409_6), (7, .int l409_7)]) (hok : p_X5_isSame_L409 n409 uH uC uT uI uM uG l409_4 l409_5 l409_6 l409_7 = some z), W p l e { frames := 5, cells := 1, slots := 8, locals := 115 } s m args below meth c H locs 1 8 (MQ below (va_Qi (fun (r : Int32) (_ : (Nat × Nat × Nat × Nat × Nat × Nat × (Nat → Nat) × (Nat → Nat) × (Nat → Nat) × (Nat → Nat))) => r = z) (fun a9 t => va_P (dC, dI) vwCl ((wN cI cZ n0 h0 h3 h4 h5 h6 c0 c8 c9 c10 c11 c12 c13 t0 t8 t9 t10 t11 t12 t13 i0 i1 i2 i3 i4 m0 m1 m2 uH uC uT uI uM) ++ wX5 cI cZ cJ g0 a9.1 a9.2.1 a9.2.2.1 a9.2.2.2.1 a9.2.2.2.2.1 a9.2.2.2.2.2.1 a9.2.2.2.2.2.2.1 a9.2.2.2.2.2.2.2.1 a9.2.2.2.2.2.2.2.2.1 a9.2.2.2.2.2.2.2.2.2 uG) t.heap ∧ va_D A ((wN cI cZ n0 h0 h3 h4 h5 h6 c0 c8 c9 c10 c11 c12 c13 t0 t8 t9 t10 t11 t12 t13 i0 i1 i2 i3 i4 m0 m1 m2 uH uC uT uI uM) ++ wX5 cI cZ cJ g0 a9.1 a9.2.1 a9.2.2.1 a9.2.2.2.1 a9.2.2.2.2.1 a9.2.2.2.2.2.1 a9.2.2.2.2.2.2.1 a9.2.2.2.2.2.2.2.1 a9.2.2.2.2.2.2.2.2.1 a9.2.2.2.2.2.2.2.2.2 uG)) A) args s 1 8 A) (F0 m 409 ls []) := by
    intro n409
    induction n409 with
    | zero =>
      intro g7 g8 g9 g10 g11 g12 G9 G10 G11 G12 l409_4 l409_5 l409_6 l409_7 H locs hP hD hS ls hl hok
      rw [p_X5_isSame_L409] at hok
      cases hok
    | succ n409 ih409 =>
      have J507 : ∀ (g7 : Nat) (g8 : Nat) (g9 : Nat) (g10 : Nat) (g11 : Nat) (g12 : Nat) (G9 : (Nat → Nat)) (G10 : (Nat → Nat)) (G11 : (Nat → Nat)) (G12 : (Nat → Nat)) (w507_8 : Nat) (l507_4 : Int32) (l507_5 : Int32) (l507_6 : Int32) (l507_7 : Int32) (H : Heap) (locs : List Loc) (hP : va_P (dC, dI) vwCl ((wN cI cZ n0 h0 h3 h4 h5 h6 c0 c8 c9 c10 c11 c12 c13 t0 t8 t9 t10 t11 t12 t13 i0 i1 i2 i3 i4 m0 m1 m2 uH uC uT uI uM) ++ (wX5 cI cZ cJ g0 g7 g8 g9 g10 g11 g12 G9 G10 G11 G12 uG ++ ([] : va_W))) H) (hD : va_D A ((wN cI cZ n0 h0 h3 h4 h5 h6 c0 c8 c9 c10 c11 c12 c13 t0 t8 t9 t10 t11 t12 t13 i0 i1 i2 i3 i4 m0 m1 m2 uH uC uT uI uM) ++ (wX5 cI cZ cJ g0 g7 g8 g9 g10 g11 g12 G9 G10 G11 G12 uG ++ ([] : va_W)))) (hS : va_S A s.heap H locs) (ls : Array Slot) (hl : lv_has ls 15 [(0, .ref g0), (1, .ref n0), (4, .int l507_4), (5, .int l507_5), (6, .int l507_6), (7, .int l507_7), (8, .ref (G12 w507_8))]) (hok : p_X5_isSame_J507 (p_X5_isSame_L409 n409) uH uC uT uI uM uG w507_8 l507_4 l507_5 l507_6 l507_7 = some z), W p l e { frames := 5, cells := 1, slots := 8, locals := 115 } s m args below meth c H locs 1 8 (MQ below (va_Qi (fun (r : Int32) (_ : (Nat × Nat × Nat × Nat × Nat × Nat × (Nat → Nat) × (Nat → Nat) × (Nat → Nat) × (Nat → Nat))) => r = z) (fun a9 t => va_P (dC, dI) vwCl ((wN cI cZ n0 h0 h3 h4 h5 h6 c0 c8 c9 c10 c11 c12 c13 t0 t8 t9 t10 t11 t12 t13 i0 i1 i2 i3 i4 m0 m1 m2 uH uC uT uI uM) ++ wX5 cI cZ cJ g0 a9.1 a9.2.1 a9.2.2.1 a9.2.2.2.1 a9.2.2.2.2.1 a9.2.2.2.2.2.1 a9.2.2.2.2.2.2.1 a9.2.2.2.2.2.2.2.1 a9.2.2.2.2.2.2.2.2.1 a9.2.2.2.2.2.2.2.2.2 uG) t.heap ∧ va_D A ((wN cI cZ n0 h0 h3 h4 h5 h6 c0 c8 c9 c10 c11 c12 c13 t0 t8 t9 t10 t11 t12 t13 i0 i1 i2 i3 i4 m0 m1 m2 uH uC uT uI uM) ++ wX5 cI cZ cJ g0 a9.1 a9.2.1 a9.2.2.1 a9.2.2.2.1 a9.2.2.2.2.1 a9.2.2.2.2.2.1 a9.2.2.2.2.2.2.1 a9.2.2.2.2.2.2.2.1 a9.2.2.2.2.2.2.2.2.1 a9.2.2.2.2.2.2.2.2.2 uG)) A) args s 1 8 A) (F0 m 507 ls []) := by
        intro g7 g8 g9 g10 g11 g12 G9 G10 G11 G12 w507_8 l507_4 l507_5 l507_6 l507_7 H locs hP hD hS ls hl hok
        unfold p_X5_isSame_J507 at hok
        refine lv_aload_n hx hb dX5_isSame_507 rfl (lv_at hl 1 rfl) ?_
        refine lv_iload hx hb dX5_isSame_508 (lv_at hl 5 rfl) ?_
        obtain ⟨v77, hc77, hok⟩ := bd_some hok
        refine cRVi (ci := 4) (q0 := 0) [.int l507_7] S hK2 (va_Pmid (wa := []) hP) (c_X4_floorIn l dC dI cI cZ n0 h0 h3 h4 h5 h6 c0 c8 c9 c10 c11 c12 c13 t0 t8 t9 t10 t11 t12 t13 i0 i1 i2 i3 i4 m0 m1 m2 uH uC uT uI uM l507_7 hc77) (lw_V qm_X5_149 qi_X4_floorIn qs_X4_floorIn qn_X4 qc_X4_floorIn) hd_X4_floorIn ⟨rfl, rfl⟩ ⟨Nat.le_of_ble_eq_true rfl, Nat.le_of_ble_eq_true rfl⟩ ⟨Nat.le_of_ble_eq_true rfl, Nat.le_of_ble_eq_true rfl⟩ rfl rfl rfl hl.1 (Nat.le_of_ble_eq_true rfl) rfl dX5_isSame_510 ?_
        refine lv_aload hx hb dX5_isSame_513 (lv_at hl 6 rfl) ?_
        refine lv_iconst (v := (0 : Int32)) hx hb dX5_isSame_515 (by decide) ?_
        obtain ⟨hr78, hok⟩ := gN_some hok
        obtain ⟨hi79, hok⟩ := gd_some hok
        refine rl12 hx hb hK 0 rfl hP (k := w507_8) (j := 0) hr78 rfl (by decide) hi79 dX5_isSame_516 ?_
        refine lv_icmp_ne (tgt := 559) hx hb dX5_isSame_517 (by decide) (fun hc => ?_) (fun hc => ?_)
        · have hok := iq hok hc
          refine lv_iconst (v := (0 : Int32)) hx hb dX5_isSame_559 (by decide) ?_
          have hok := Option.some.inj hok
          subst hok
          exact eAz S hr hlk (by decide) rfl (g7, g8, g9, g10, g11, g12, G9, G10, G11, G12) (nx_P hP) (nx_D hD) hS (Nat.le_of_ble_eq_true rfl) (Nat.le_of_ble_eq_true rfl) dX5_isSame_560
        · have hok := ip hok hc
          refine lv_aload_n hx hb dX5_isSame_520 rfl (lv_at hl 1 rfl) ?_
          refine lv_iload hx hb dX5_isSame_521 (lv_at hl 5 rfl) ?_
          obtain ⟨v80, hc80, hok⟩ := bd_some hok
          refine cRVi (ci := 4) (q0 := 0) [.int l507_7] S hK2 (va_Pmid (wa := []) hP) (c_X4_paragraphIn l dC dI cI cZ n0 h0 h3 h4 h5 h6 c0 c8 c9 c10 c11 c12 c13 t0 t8 t9 t10 t11 t12 t13 i0 i1 i2 i3 i4 m0 m1 m2 uH uC uT uI uM l507_7 hc80) (lw_V qm_X5_152 qi_X4_paragraphIn qs_X4_paragraphIn qn_X4 qc_X4_paragraphIn) hd_X4_paragraphIn ⟨rfl, rfl⟩ ⟨Nat.le_of_ble_eq_true rfl, Nat.le_of_ble_eq_true rfl⟩ ⟨Nat.le_of_ble_eq_true rfl, Nat.le_of_ble_eq_true rfl⟩ rfl rfl rfl hl.1 (Nat.le_of_ble_eq_true rfl) rfl dX5_isSame_523 ?_
          refine lv_aload hx hb dX5_isSame_526 (lv_at hl 6 rfl) ?_
          refine lv_iconst (v := (1 : Int32)) hx hb dX5_isSame_528 (by decide) ?_
          obtain ⟨hi81, hok⟩ := gd_some hok
          refine rl12 hx hb hK 0 rfl hP (k := w507_8) (j := 1) hr78 rfl (by decide) hi81 dX5_isSame_529 ?_
          refine lv_icmp_ne (tgt := 559) hx hb dX5_isSame_530 (by decide) (fun hc => ?_) (fun hc => ?_)
          · have hok := iq hok hc
            refine lv_iconst (v := (0 : Int32)) hx hb dX5_isSame_559 (by decide) ?_
            have hok := Option.some.inj hok
            subst hok
            exact eAz S hr hlk (by decide) rfl (g7, g8, g9, g10, g11, g12, G9, G10, G11, G12) (nx_P hP) (nx_D hD) hS (Nat.le_of_ble_eq_true rfl) (Nat.le_of_ble_eq_true rfl) dX5_isSame_560
          · have hok := ip hok hc
            refine lv_aload_n hx hb dX5_isSame_533 rfl (lv_at hl 1 rfl) ?_
            refine lv_iload hx hb dX5_isSame_534 (lv_at hl 5 rfl) ?_
            obtain ⟨v82, hc82, hok⟩ := bd_some hok
            refine cRVi (ci := 4) (q0 := 0) [.int l507_7] S hK2 (va_Pmid (wa := []) hP) (c_X4_thrillIn l dC dI cI cZ n0 h0 h3 h4 h5 h6 c0 c8 c9 c10 c11 c12 c13 t0 t8 t9 t10 t11 t12 t13 i0 i1 i2 i3 i4 m0 m1 m2 uH uC uT uI uM l507_7 hc82) (lw_V qm_X5_155 qi_X4_thrillIn qs_X4_thrillIn qn_X4 qc_X4_thrillIn) hd_X4_thrillIn ⟨rfl, rfl⟩ ⟨Nat.le_of_ble_eq_true rfl, Nat.le_of_ble_eq_true rfl⟩ ⟨Nat.le_of_ble_eq_true rfl, Nat.le_of_ble_eq_true rfl⟩ rfl rfl rfl hl.1 (Nat.le_of_ble_eq_true rfl) rfl dX5_isSame_536 ?_
            refine lv_aload hx hb dX5_isSame_539 (lv_at hl 6 rfl) ?_
            refine lv_iconst (v := (4 : Int32)) hx hb dX5_isSame_541 (by decide) ?_
            obtain ⟨hi83, hok⟩ := gd_some hok
            refine rl12 hx hb hK 0 rfl hP (k := w507_8) (j := 4) hr78 rfl (by decide) hi83 dX5_isSame_542 ?_
            refine lv_icmp_ne (tgt := 559) hx hb dX5_isSame_543 (by decide) (fun hc => ?_) (fun hc => ?_)
            · have hok := iq hok hc
              refine lv_iconst (v := (0 : Int32)) hx hb dX5_isSame_559 (by decide) ?_
              have hok := Option.some.inj hok
              subst hok
              exact eAz S hr hlk (by decide) rfl (g7, g8, g9, g10, g11, g12, G9, G10, G11, G12) (nx_P hP) (nx_D hD) hS (Nat.le_of_ble_eq_true rfl) (Nat.le_of_ble_eq_true rfl) dX5_isSame_560
            · have hok := ip hok hc
              refine lv_aload_n hx hb dX5_isSame_546 rfl (lv_at hl 1 rfl) ?_
              refine lv_iload hx hb dX5_isSame_547 (lv_at hl 5 rfl) ?_
              obtain ⟨v84, hc84, hok⟩ := bd_some hok
              refine cRVi (ci := 4) (q0 := 0) [.int l507_7] S hK2 (va_Pmid (wa := []) hP) (c_X4_hourIn l dC dI cI cZ n0 h0 h3 h4 h5 h6 c0 c8 c9 c10 c11 c12 c13 t0 t8 t9 t10 t11 t12 t13 i0 i1 i2 i3 i4 m0 m1 m2 uH uC uT uI uM l507_7 hc84) (lw_V qm_X5_158 qi_X4_hourIn qs_X4_hourIn qn_X4 qc_X4_hourIn) hd_X4_hourIn ⟨rfl, rfl⟩ ⟨Nat.le_of_ble_eq_true rfl, Nat.le_of_ble_eq_true rfl⟩ ⟨Nat.le_of_ble_eq_true rfl, Nat.le_of_ble_eq_true rfl⟩ rfl rfl rfl hl.1 (Nat.le_of_ble_eq_true rfl) rfl dX5_isSame_549 ?_
              refine lv_aload hx hb dX5_isSame_552 (lv_at hl 6 rfl) ?_
              refine lv_iconst (v := (5 : Int32)) hx hb dX5_isSame_554 (by decide) ?_
              obtain ⟨hi85, hok⟩ := gd_some hok
              refine rl12 hx hb hK 0 rfl hP (k := w507_8) (j := 5) hr78 rfl (by decide) hi85 dX5_isSame_555 ?_
              refine lv_icmp_eq (tgt := 561) hx hb dX5_isSame_556 (by decide) (fun hc => ?_) (fun hc => ?_)
              · have hok := ip hok hc
                refine lv_iinc (v := (l507_7 + 1)) (lv' := [(7, .int (l507_7 + 1)), (0, .ref g0), (1, .ref n0), (4, .int l507_4), (5, .int l507_5), (6, .int l507_6), (8, .ref (G12 w507_8))]) hx hb dX5_isSame_561 hl (k := 5) rfl rfl (by decide) rfl (fun ls hl => ?_)
                refine lv_goto (tgt := 409) hx hb dX5_isSame_564 (by decide) ?_
                exact ih409 g7 g8 g9 g10 g11 g12 G9 G10 G11 G12 l507_4 l507_5 l507_6 (l507_7 + 1) _ _ hP hD hS _ (lv_sub hl [1, 2, 3, 4, 5, 0] rfl) hok
              · have hok := iq hok hc
                refine lv_iconst (v := (0 : Int32)) hx hb dX5_isSame_559 (by decide) ?_
                have hok := Option.some.inj hok
                subst hok
                exact eAz S hr hlk (by decide) rfl (g7, g8, g9, g10, g11, g12, G9, G10, G11, G12) (nx_P hP) (nx_D hD) hS (Nat.le_of_ble_eq_true rfl) (Nat.le_of_ble_eq_true rfl) dX5_isSame_560
      have J481 : ∀ (g7 : Nat) (g8 : Nat) (g9 : Nat) (g10 : Nat) (g11 : Nat) (g12 : Nat) (G9 : (Nat → Nat)) (G10 : (Nat → Nat)) (G11 : (Nat → Nat)) (G12 : (Nat → Nat)) (w481_8 : Nat) (l481_4 : Int32) (l481_5 : Int32) (l481_6 : Int32) (l481_7 : Int32) (H : Heap) (locs : List Loc) (hP : va_P (dC, dI) vwCl ((wN cI cZ n0 h0 h3 h4 h5 h6 c0 c8 c9 c10 c11 c12 c13 t0 t8 t9 t10 t11 t12 t13 i0 i1 i2 i3 i4 m0 m1 m2 uH uC uT uI uM) ++ (wX5 cI cZ cJ g0 g7 g8 g9 g10 g11 g12 G9 G10 G11 G12 uG ++ ([] : va_W))) H) (hD : va_D A ((wN cI cZ n0 h0 h3 h4 h5 h6 c0 c8 c9 c10 c11 c12 c13 t0 t8 t9 t10 t11 t12 t13 i0 i1 i2 i3 i4 m0 m1 m2 uH uC uT uI uM) ++ (wX5 cI cZ cJ g0 g7 g8 g9 g10 g11 g12 G9 G10 G11 G12 uG ++ ([] : va_W)))) (hS : va_S A s.heap H locs) (ls : Array Slot) (hl : lv_has ls 15 [(0, .ref g0), (1, .ref n0), (4, .int l481_4), (5, .int l481_5), (6, .int l481_6), (7, .int l481_7), (8, .ref (G12 w481_8))]) (hok : p_X5_isSame_J481 (p_X5_isSame_L409 n409) uH uC uT uI uM uG w481_8 l481_4 l481_5 l481_6 l481_7 = some z), W p l e { frames := 5, cells := 1, slots := 8, locals := 115 } s m args below meth c H locs 1 8 (MQ below (va_Qi (fun (r : Int32) (_ : (Nat × Nat × Nat × Nat × Nat × Nat × (Nat → Nat) × (Nat → Nat) × (Nat → Nat) × (Nat → Nat))) => r = z) (fun a9 t => va_P (dC, dI) vwCl ((wN cI cZ n0 h0 h3 h4 h5 h6 c0 c8 c9 c10 c11 c12 c13 t0 t8 t9 t10 t11 t12 t13 i0 i1 i2 i3 i4 m0 m1 m2 uH uC uT uI uM) ++ wX5 cI cZ cJ g0 a9.1 a9.2.1 a9.2.2.1 a9.2.2.2.1 a9.2.2.2.2.1 a9.2.2.2.2.2.1 a9.2.2.2.2.2.2.1 a9.2.2.2.2.2.2.2.1 a9.2.2.2.2.2.2.2.2.1 a9.2.2.2.2.2.2.2.2.2 uG) t.heap ∧ va_D A ((wN cI cZ n0 h0 h3 h4 h5 h6 c0 c8 c9 c10 c11 c12 c13 t0 t8 t9 t10 t11 t12 t13 i0 i1 i2 i3 i4 m0 m1 m2 uH uC uT uI uM) ++ wX5 cI cZ cJ g0 a9.1 a9.2.1 a9.2.2.1 a9.2.2.2.1 a9.2.2.2.2.1 a9.2.2.2.2.2.1 a9.2.2.2.2.2.2.1 a9.2.2.2.2.2.2.2.1 a9.2.2.2.2.2.2.2.2.1 a9.2.2.2.2.2.2.2.2.2 uG)) A) args s 1 8 A) (F0 m 481 ls []) := by
        intro g7 g8 g9 g10 g11 g12 G9 G10 G11 G12 w481_8 l481_4 l481_5 l481_6 l481_7 H locs hP hD hS ls hl hok
        unfold p_X5_isSame_J481 at hok
        refine lv_iload hx hb dX5_isSame_481 (lv_at hl 5 rfl) ?_
        refine lv_if_le (tgt := 507) hx hb dX5_isSame_483 (by decide) (fun hc => ?_) (fun hc => ?_)
        · have hok := ip hok hc
          exact J507 g7 g8 g9 g10 g11 g12 G9 G10 G11 G12 w481_8 l481_4 l481_5 l481_6 l481_7 _ _ hP hD hS _ hl hok
        · have hok := iq hok hc
          refine lv_aload hx hb dX5_isSame_486 (lv_at hl 6 rfl) ?_
          refine lv_iconst (v := (0 : Int32)) hx hb dX5_isSame_488 (by decide) ?_
          obtain ⟨hr68, hok⟩ := gN_some hok
          obtain ⟨hi69, hok⟩ := gd_some hok
          refine rl12 hx hb hK 0 rfl hP (k := w481_8) (j := 0) hr68 rfl (by decide) hi69 dX5_isSame_489 ?_
          refine lv_aload_n hx hb dX5_isSame_490 rfl (lv_at hl 0 rfl) ?_
          refine va_get (D := (dC, dI)) (ci := 5) (v := .ref g12) (C := RX5) (T := TX5) (N := 14) hx hb hts inX5 hown hK hP 28 rfl rfl 12 (by decide) (hts _ qf_X5_33) (fun _ h9 => h9) rfl dX5_isSame_491 ?_
          refine lv_iload hx hb dX5_isSame_494 (lv_at hl 5 rfl) ?_
          refine lv_iconst (v := (1 : Int32)) hx hb dX5_isSame_496 (by decide) ?_
          refine lv_isub hx hb dX5_isSame_497 ?_
          obtain ⟨hi70, hok⟩ := gd_some hok
          refine ra12 hx hb hK 2 rfl hP (j := (l481_7 - (1 : Int32)).toNatClampNeg) rfl hi70 dX5_isSame_498 ?_
          refine lv_iconst (v := (0 : Int32)) hx hb dX5_isSame_499 (by decide) ?_
          obtain ⟨hi71, hok⟩ := gd_some hok
          refine rl12 hx hb hK 0 rfl hP (k := ((l481_7 - (1 : Int32)).toNatClampNeg)) (j := 0) (vp_inL rfl hi70) rfl (by decide) hi71 dX5_isSame_500 ?_
          refine lv_icmp_le (tgt := 507) hx hb dX5_isSame_501 (by decide) (fun hc => ?_) (fun hc => ?_)
          · have hok := ip hok hc
            exact J507 g7 g8 g9 g10 g11 g12 G9 G10 G11 G12 w481_8 l481_4 l481_5 l481_6 l481_7 _ _ hP hD hS _ hl hok
          · have hok := iq hok hc
            refine lv_iinc (v := (l481_6 + 1)) (lv' := [(6, .int (l481_6 + 1)), (0, .ref g0), (1, .ref n0), (4, .int l481_4), (5, .int l481_5), (7, .int l481_7), (8, .ref (G12 w481_8))]) hx hb dX5_isSame_504 hl (k := 4) rfl rfl (by decide) rfl (fun ls hl => ?_)
            exact J507 g7 g8 g9 g10 g11 g12 G9 G10 G11 G12 w481_8 l481_4 l481_5 (l481_6 + 1) l481_7 _ _ hP hD hS _ (lv_sub hl [1, 2, 3, 4, 0, 5, 6] rfl) hok
      have J453 : ∀ (g7 : Nat) (g8 : Nat) (g9 : Nat) (g10 : Nat) (g11 : Nat) (g12 : Nat) (G9 : (Nat → Nat)) (G10 : (Nat → Nat)) (G11 : (Nat → Nat)) (G12 : (Nat → Nat)) (w453_8 : Nat) (l453_4 : Int32) (l453_5 : Int32) (l453_6 : Int32) (l453_7 : Int32) (H : Heap) (locs : List Loc) (hP : va_P (dC, dI) vwCl ((wN cI cZ n0 h0 h3 h4 h5 h6 c0 c8 c9 c10 c11 c12 c13 t0 t8 t9 t10 t11 t12 t13 i0 i1 i2 i3 i4 m0 m1 m2 uH uC uT uI uM) ++ (wX5 cI cZ cJ g0 g7 g8 g9 g10 g11 g12 G9 G10 G11 G12 uG ++ ([] : va_W))) H) (hD : va_D A ((wN cI cZ n0 h0 h3 h4 h5 h6 c0 c8 c9 c10 c11 c12 c13 t0 t8 t9 t10 t11 t12 t13 i0 i1 i2 i3 i4 m0 m1 m2 uH uC uT uI uM) ++ (wX5 cI cZ cJ g0 g7 g8 g9 g10 g11 g12 G9 G10 G11 G12 uG ++ ([] : va_W)))) (hS : va_S A s.heap H locs) (ls : Array Slot) (hl : lv_has ls 15 [(0, .ref g0), (1, .ref n0), (4, .int l453_4), (5, .int l453_5), (6, .int l453_6), (7, .int l453_7), (8, .ref (G12 w453_8))]) (hok : p_X5_isSame_J453 (p_X5_isSame_L409 n409) uH uC uT uI uM uG w453_8 l453_4 l453_5 l453_6 l453_7 = some z), W p l e { frames := 5, cells := 1, slots := 8, locals := 115 } s m args below meth c H locs 1 8 (MQ below (va_Qi (fun (r : Int32) (_ : (Nat × Nat × Nat × Nat × Nat × Nat × (Nat → Nat) × (Nat → Nat) × (Nat → Nat) × (Nat → Nat))) => r = z) (fun a9 t => va_P (dC, dI) vwCl ((wN cI cZ n0 h0 h3 h4 h5 h6 c0 c8 c9 c10 c11 c12 c13 t0 t8 t9 t10 t11 t12 t13 i0 i1 i2 i3 i4 m0 m1 m2 uH uC uT uI uM) ++ wX5 cI cZ cJ g0 a9.1 a9.2.1 a9.2.2.1 a9.2.2.2.1 a9.2.2.2.2.1 a9.2.2.2.2.2.1 a9.2.2.2.2.2.2.1 a9.2.2.2.2.2.2.2.1 a9.2.2.2.2.2.2.2.2.1 a9.2.2.2.2.2.2.2.2.2 uG) t.heap ∧ va_D A ((wN cI cZ n0 h0 h3 h4 h5 h6 c0 c8 c9 c10 c11 c12 c13 t0 t8 t9 t10 t11 t12 t13 i0 i1 i2 i3 i4 m0 m1 m2 uH uC uT uI uM) ++ wX5 cI cZ cJ g0 a9.1 a9.2.1 a9.2.2.1 a9.2.2.2.1 a9.2.2.2.2.1 a9.2.2.2.2.2.1 a9.2.2.2.2.2.2.1 a9.2.2.2.2.2.2.2.1 a9.2.2.2.2.2.2.2.2.1 a9.2.2.2.2.2.2.2.2.2 uG)) A) args s 1 8 A) (F0 m 453 ls []) := by
        intro g7 g8 g9 g10 g11 g12 G9 G10 G11 G12 w453_8 l453_4 l453_5 l453_6 l453_7 H locs hP hD hS ls hl hok
        unfold p_X5_isSame_J453 at hok
        refine lv_iload hx hb dX5_isSame_453 (lv_at hl 5 rfl) ?_
        refine lv_if_le (tgt := 481) hx hb dX5_isSame_455 (by decide) (fun hc => ?_) (fun hc => ?_)
        · have hok := ip hok hc
          exact J481 g7 g8 g9 g10 g11 g12 G9 G10 G11 G12 w453_8 l453_4 l453_5 l453_6 l453_7 _ _ hP hD hS _ hl hok
        · have hok := iq hok hc
          refine lv_iload hx hb dX5_isSame_458 (lv_at hl 3 rfl) ?_
          refine lv_aload hx hb dX5_isSame_460 (lv_at hl 6 rfl) ?_
          refine lv_iconst (v := (5 : Int32)) hx hb dX5_isSame_462 (by decide) ?_
          obtain ⟨hr47, hok⟩ := gN_some hok
          obtain ⟨hi48, hok⟩ := gd_some hok
          refine rl12 hx hb hK 0 rfl hP (k := w453_8) (j := 5) hr47 rfl (by decide) hi48 dX5_isSame_463 ?_
          refine lv_aload_n hx hb dX5_isSame_464 rfl (lv_at hl 0 rfl) ?_
          refine va_get (D := (dC, dI)) (ci := 5) (v := .ref g12) (C := RX5) (T := TX5) (N := 14) hx hb hts inX5 hown hK hP 28 rfl rfl 12 (by decide) (hts _ qf_X5_33) (fun _ h9 => h9) rfl dX5_isSame_465 ?_
          refine lv_iload hx hb dX5_isSame_468 (lv_at hl 5 rfl) ?_
          refine lv_iconst (v := (1 : Int32)) hx hb dX5_isSame_470 (by decide) ?_
          refine lv_isub hx hb dX5_isSame_471 ?_
          obtain ⟨hi49, hok⟩ := gd_some hok
          refine ra12 hx hb hK 2 rfl hP (j := (l453_7 - (1 : Int32)).toNatClampNeg) rfl hi49 dX5_isSame_472 ?_
          refine lv_iconst (v := (5 : Int32)) hx hb dX5_isSame_473 (by decide) ?_
          obtain ⟨hi50, hok⟩ := gd_some hok
          refine rl12 hx hb hK 0 rfl hP (k := ((l453_7 - (1 : Int32)).toNatClampNeg)) (j := 5) (vp_inL rfl hi49) rfl (by decide) hi50 dX5_isSame_474 ?_
          refine lv_isub hx hb dX5_isSame_475 ?_
          refine va_mmax hx hb (hml.trans hl.1.symm) hown (hts _ qm_X5_144) (hts _ qt_Math_max) (hts _ qn_Math) (hts _ qc_Math_max) (Nat.le_of_ble_eq_true rfl) (Nat.le_of_ble_eq_true rfl) (Nat.le_of_ble_eq_true rfl) (Nat.le_of_ble_eq_true rfl) dX5_isSame_476 ?_
          refine lv_istore (lv' := [(5, .int (if l453_5 < (((uG.2.2.2.2.2.2.2.2.2.2.2.2.1.2 w453_8).2 5) - ((uG.2.2.2.2.2.2.2.2.2.2.2.2.1.2 ((l453_7 - (1 : Int32)).toNatClampNeg)).2 5)) then (((uG.2.2.2.2.2.2.2.2.2.2.2.2.1.2 w453_8).2 5) - ((uG.2.2.2.2.2.2.2.2.2.2.2.2.1.2 ((l453_7 - (1 : Int32)).toNatClampNeg)).2 5)) else l453_5)), (0, .ref g0), (1, .ref n0), (4, .int l453_4), (6, .int l453_6), (7, .int l453_7), (8, .ref (G12 w453_8))]) hx hb dX5_isSame_479 hl (by decide) rfl (fun ls hl => ?_)
          exact J481 g7 g8 g9 g10 g11 g12 G9 G10 G11 G12 w453_8 l453_4 (if l453_5 < (((uG.2.2.2.2.2.2.2.2.2.2.2.2.1.2 w453_8).2 5) - ((uG.2.2.2.2.2.2.2.2.2.2.2.2.1.2 ((l453_7 - (1 : Int32)).toNatClampNeg)).2 5)) then (((uG.2.2.2.2.2.2.2.2.2.2.2.2.1.2 w453_8).2 5) - ((uG.2.2.2.2.2.2.2.2.2.2.2.2.1.2 ((l453_7 - (1 : Int32)).toNatClampNeg)).2 5)) else l453_5) l453_6 l453_7 _ _ hP hD hS _ (lv_sub hl [1, 2, 3, 0, 4, 5, 6] rfl) hok
      have J449 : ∀ (g7 : Nat) (g8 : Nat) (g9 : Nat) (g10 : Nat) (g11 : Nat) (g12 : Nat) (G9 : (Nat → Nat)) (G10 : (Nat → Nat)) (G11 : (Nat → Nat)) (G12 : (Nat → Nat)) (w449_8 : Nat) (l449_5 : Int32) (l449_6 : Int32) (l449_7 : Int32) (H : Heap) (locs : List Loc) (hP : va_P (dC, dI) vwCl ((wN cI cZ n0 h0 h3 h4 h5 h6 c0 c8 c9 c10 c11 c12 c13 t0 t8 t9 t10 t11 t12 t13 i0 i1 i2 i3 i4 m0 m1 m2 uH uC uT uI uM) ++ (wX5 cI cZ cJ g0 g7 g8 g9 g10 g11 g12 G9 G10 G11 G12 uG ++ ([] : va_W))) H) (hD : va_D A ((wN cI cZ n0 h0 h3 h4 h5 h6 c0 c8 c9 c10 c11 c12 c13 t0 t8 t9 t10 t11 t12 t13 i0 i1 i2 i3 i4 m0 m1 m2 uH uC uT uI uM) ++ (wX5 cI cZ cJ g0 g7 g8 g9 g10 g11 g12 G9 G10 G11 G12 uG ++ ([] : va_W)))) (hS : va_S A s.heap H locs) (ls : Array Slot) (hl : lv_has ls 15 [(0, .ref g0), (1, .ref n0), (5, .int l449_5), (6, .int l449_6), (7, .int l449_7), (8, .ref (G12 w449_8))]) (hok : p_X5_isSame_J449 (p_X5_isSame_L409 n409) uH uC uT uI uM uG w449_8 l449_5 l449_6 l449_7 = some z), W p l e { frames := 5, cells := 1, slots := 8, locals := 115 } s m args below meth c H locs 1 8 (MQ below (va_Qi (fun (r : Int32) (_ : (Nat × Nat × Nat × Nat × Nat × Nat × (Nat → Nat) × (Nat → Nat) × (Nat → Nat) × (Nat → Nat))) => r = z) (fun a9 t => va_P (dC, dI) vwCl ((wN cI cZ n0 h0 h3 h4 h5 h6 c0 c8 c9 c10 c11 c12 c13 t0 t8 t9 t10 t11 t12 t13 i0 i1 i2 i3 i4 m0 m1 m2 uH uC uT uI uM) ++ wX5 cI cZ cJ g0 a9.1 a9.2.1 a9.2.2.1 a9.2.2.2.1 a9.2.2.2.2.1 a9.2.2.2.2.2.1 a9.2.2.2.2.2.2.1 a9.2.2.2.2.2.2.2.1 a9.2.2.2.2.2.2.2.2.1 a9.2.2.2.2.2.2.2.2.2 uG) t.heap ∧ va_D A ((wN cI cZ n0 h0 h3 h4 h5 h6 c0 c8 c9 c10 c11 c12 c13 t0 t8 t9 t10 t11 t12 t13 i0 i1 i2 i3 i4 m0 m1 m2 uH uC uT uI uM) ++ wX5 cI cZ cJ g0 a9.1 a9.2.1 a9.2.2.1 a9.2.2.2.1 a9.2.2.2.2.1 a9.2.2.2.2.2.1 a9.2.2.2.2.2.2.1 a9.2.2.2.2.2.2.2.1 a9.2.2.2.2.2.2.2.2.1 a9.2.2.2.2.2.2.2.2.2 uG)) A) args s 1 8 A) (F0 m 449 ls []) := by
        intro g7 g8 g9 g10 g11 g12 G9 G10 G11 G12 w449_8 l449_5 l449_6 l449_7 H locs hP hD hS ls hl hok
        unfold p_X5_isSame_J449 at hok
        refine lv_iload hx hb dX5_isSame_449 (lv_at hl 4 rfl) ?_
        refine lv_istore (lv' := [(4, .int l449_7), (0, .ref g0), (1, .ref n0), (5, .int l449_5), (6, .int l449_6), (7, .int l449_7), (8, .ref (G12 w449_8))]) hx hb dX5_isSame_451 hl (by decide) rfl (fun ls hl => ?_)
        exact J453 g7 g8 g9 g10 g11 g12 G9 G10 G11 G12 w449_8 l449_7 l449_5 l449_6 l449_7 _ _ hP hD hS _ (lv_sub hl [1, 2, 0, 3, 4, 5, 6] rfl) hok
      intro g7 g8 g9 g10 g11 g12 G9 G10 G11 G12 l409_4 l409_5 l409_6 l409_7 H locs hP hD hS ls hl hok
      rw [p_X5_isSame_L409] at hok
      refine lv_iload hx hb dX5_isSame_409 (lv_at hl 5 rfl) ?_
      refine lv_aload_n hx hb dX5_isSame_411 rfl (lv_at hl 0 rfl) ?_
      refine va_get (D := (dC, dI)) (ci := 5) (v := .ref g12) (C := RX5) (T := TX5) (N := 14) hx hb hts inX5 hown hK hP 28 rfl rfl 12 (by decide) (hts _ qf_X5_33) (fun _ h9 => h9) rfl dX5_isSame_412 ?_
      refine va_alen (v := (nI uG.2.2.2.2.2.2.2.2.2.2.2.2.1.1)) hx hb hK hP 34 2 rfl rfl rfl dX5_isSame_415 ?_
      refine lv_icmp_ge (tgt := 567) hx hb dX5_isSame_416 (by decide) (fun hc => ?_) (fun hc => ?_)
      · have hok := ip hok hc
        refine lv_iconst (v := (-1 : Int32)) hx hb dX5_isSame_567 (by decide) ?_
        refine lv_istore (lv' := [(7, .int (-1 : Int32)), (0, .ref g0), (1, .ref n0), (4, .int l409_4), (5, .int l409_5), (6, .int l409_6)]) hx hb dX5_isSame_568 hl (by decide) rfl (fun ls hl => ?_)
        refine lv_iconst (v := (0 : Int32)) hx hb dX5_isSame_570 (by decide) ?_
        refine lv_istore (lv' := [(8, .int (0 : Int32)), (7, .int (-1 : Int32)), (0, .ref g0), (1, .ref n0), (4, .int l409_4), (5, .int l409_5), (6, .int l409_6)]) hx hb dX5_isSame_571 hl (by decide) rfl (fun ls hl => ?_)
        exact L573 200 g7 g8 g9 g10 g11 g12 G9 G10 G11 G12 l409_4 l409_5 l409_6 (-1 : Int32) (0 : Int32) _ _ hP hD hS _ (lv_sub hl [2, 3, 4, 5, 6, 1, 0] rfl) hok
      · have hok := iq hok hc
        refine lv_aload_n hx hb dX5_isSame_419 rfl (lv_at hl 0 rfl) ?_
        refine va_get (D := (dC, dI)) (ci := 5) (v := .ref g12) (C := RX5) (T := TX5) (N := 14) hx hb hts inX5 hown hK hP 28 rfl rfl 12 (by decide) (hts _ qf_X5_33) (fun _ h9 => h9) rfl dX5_isSame_420 ?_
        refine lv_iload hx hb dX5_isSame_423 (lv_at hl 5 rfl) ?_
        obtain ⟨hi31, hok⟩ := gd_some hok
        refine ra12 hx hb hK 2 rfl hP (j := l409_7.toNatClampNeg) rfl hi31 dX5_isSame_425 ?_
        refine lv_astore (lv' := [(8, .ref (G12 l409_7.toNatClampNeg)), (0, .ref g0), (1, .ref n0), (4, .int l409_4), (5, .int l409_5), (6, .int l409_6), (7, .int l409_7)]) hx hb dX5_isSame_426 hl (by decide) rfl (fun ls hl => ?_)
        refine lv_iload hx hb dX5_isSame_428 (lv_at hl 3 rfl) ?_
        refine lv_if_lt (tgt := 449) hx hb dX5_isSame_430 (by decide) (fun hc => ?_) (fun hc => ?_)
        · have hok := ip hok hc
          exact J449 g7 g8 g9 g10 g11 g12 G9 G10 G11 G12 l409_7.toNatClampNeg l409_5 l409_6 l409_7 _ _ hP hD hS _ (lv_sub hl [1, 2, 4, 5, 6, 0] rfl) hok
        · have hok := iq hok hc
          refine lv_aload hx hb dX5_isSame_433 (lv_at hl 0 rfl) ?_
          refine lv_iconst (v := (4 : Int32)) hx hb dX5_isSame_435 (by decide) ?_
          obtain ⟨hi32, hok⟩ := gd_some hok
          refine rl12 hx hb hK 0 rfl hP (k := l409_7.toNatClampNeg) (j := 4) (vp_inL rfl hi31) rfl (by decide) hi32 dX5_isSame_436 ?_
          refine lv_aload_n hx hb dX5_isSame_437 rfl (lv_at hl 1 rfl) ?_
          refine va_get (D := (dC, dI)) (ci := 5) (v := .ref g12) (C := RX5) (T := TX5) (N := 14) hx hb hts inX5 hown hK hP 28 rfl rfl 12 (by decide) (hts _ qf_X5_33) (fun _ h9 => h9) rfl dX5_isSame_438 ?_
          refine lv_iload hx hb dX5_isSame_441 (lv_at hl 3 rfl) ?_
          obtain ⟨hi33, hok⟩ := gd_some hok
          refine ra12 hx hb hK 2 rfl hP (j := l409_4.toNatClampNeg) rfl hi33 dX5_isSame_443 ?_
          refine lv_iconst (v := (4 : Int32)) hx hb dX5_isSame_444 (by decide) ?_
          obtain ⟨hi34, hok⟩ := gd_some hok
          refine rl12 hx hb hK 0 rfl hP (k := l409_4.toNatClampNeg) (j := 4) (vp_inL rfl hi33) rfl (by decide) hi34 dX5_isSame_445 ?_
          refine lv_icmp_le (tgt := 453) hx hb dX5_isSame_446 (by decide) (fun hc => ?_) (fun hc => ?_)
          · have hok := ip hok hc
            exact J453 g7 g8 g9 g10 g11 g12 G9 G10 G11 G12 l409_7.toNatClampNeg l409_4 l409_5 l409_6 l409_7 _ _ hP hD hS _ (lv_sub hl [1, 2, 3, 4, 5, 6, 0] rfl) hok
          · have hok := iq hok hc
            exact J449 g7 g8 g9 g10 g11 g12 G9 G10 G11 G12 l409_7.toNatClampNeg l409_5 l409_6 l409_7 _ _ hP hD hS _ (lv_sub hl [1, 2, 4, 5, 6, 0] rfl) hok
  have L353 : ∀ n353 : Nat, ∀ (g7 : Nat) (g8 : Nat) (g9 : Nat) (g10 : Nat) (g11 : Nat) (g12 : Nat) (G9 : (Nat → Nat)) (G10 : (Nat → Nat)) (G11 : (Nat → Nat)) (G12 : (Nat → Nat)) (q353_0 : Nat) (f353_0 : (Nat → Int32)) (l353_4 : Int32) (H : Heap) (locs : List Loc) (hP : va_P (dC, dI) vwCl ((wN cI cZ n0 h0 h3 h4 h5 h6 c0 c8 c9 c10 c11 c12 c13 t0 t8 t9 t10 t11 t12 t13 i0 i1 i2 i3 i4 m0 m1 m2 uH uC uT uI uM) ++ (wX5 cI cZ cJ g0 g7 g8 g9 g10 g11 g12 G9 G10 G11 G12 uG ++ [(q353_0, .inl (cI, 8, .inl f353_0))])) H) (hD : va_D A ((wN cI cZ n0 h0 h3 h4 h5 h6 c0 c8 c9 c10 c11 c12 c13 t0 t8 t9 t10 t11 t12 t13 i0 i1 i2 i3 i4 m0 m1 m2 uH uC uT uI uM) ++ (wX5 cI cZ cJ g0 g7 g8 g9 g10 g11 g12 G9 G10 G11 G12 uG ++ [(q353_0, .inl (cI, 8, .inl f353_0))]))) (hS : va_S A s.heap H locs) (ls : Array Slot) (hl : lv_has ls 15 [(0, .ref g0), (1, .ref n0), (3, .ref q353_0), (4, .int l353_4)]) (hok : p_X5_isSame_L353 n353 uH uC uT uI uM uG f353_0 l353_4 = some z), W p l e { frames := 5, cells := 1, slots := 8, locals := 115 } s m args below meth c H locs 1 8 (MQ below (va_Qi (fun (r : Int32) (_ : (Nat × Nat × Nat × Nat × Nat × Nat × (Nat → Nat) × (Nat → Nat) × (Nat → Nat) × (Nat → Nat))) => r = z) (fun a9 t => va_P (dC, dI) vwCl ((wN cI cZ n0 h0 h3 h4 h5 h6 c0 c8 c9 c10 c11 c12 c13 t0 t8 t9 t10 t11 t12 t13 i0 i1 i2 i3 i4 m0 m1 m2 uH uC uT uI uM) ++ wX5 cI cZ cJ g0 a9.1 a9.2.1 a9.2.2.1 a9.2.2.2.1 a9.2.2.2.2.1 a9.2.2.2.2.2.1 a9.2.2.2.2.2.2.1 a9.2.2.2.2.2.2.2.1 a9.2.2.2.2.2.2.2.2.1 a9.2.2.2.2.2.2.2.2.2 uG) t.heap ∧ va_D A ((wN cI cZ n0 h0 h3 h4 h5 h6 c0 c8 c9 c10 c11 c12 c13 t0 t8 t9 t10 t11 t12 t13 i0 i1 i2 i3 i4 m0 m1 m2 uH uC uT uI uM) ++ wX5 cI cZ cJ g0 a9.1 a9.2.1 a9.2.2.1 a9.2.2.2.1 a9.2.2.2.2.1 a9.2.2.2.2.2.1 a9.2.2.2.2.2.2.1 a9.2.2.2.2.2.2.2.1 a9.2.2.2.2.2.2.2.2.1 a9.2.2.2.2.2.2.2.2.2 uG)) A) args s 1 8 A) (F0 m 353 ls []) := by
    intro n353
    induction n353 with
    | zero =>
      intro g7 g8 g9 g10 g11 g12 G9 G10 G11 G12 q353_0 f353_0 l353_4 H locs hP hD hS ls hl hok
      rw [p_X5_isSame_L353] at hok
      cases hok
    | succ n353 ih353 =>
      intro g7 g8 g9 g10 g11 g12 G9 G10 G11 G12 q353_0 f353_0 l353_4 H locs hP hD hS ls hl hok
      rw [p_X5_isSame_L353] at hok
      refine lv_iload hx hb dX5_isSame_353 (lv_at hl 3 rfl) ?_
      refine lv_bipush (v := (8 : Int32)) hx hb dX5_isSame_355 (by decide) ?_
      refine lv_icmp_ge (tgt := 397) hx hb dX5_isSame_357 (by decide) (fun hc => ?_) (fun hc => ?_)
      · have hok := ip hok hc
        refine lv_iconst (v := (-1 : Int32)) hx hb dX5_isSame_397 (by decide) ?_
        refine lv_istore (lv' := [(4, .int (-1 : Int32)), (0, .ref g0), (1, .ref n0), (3, .ref q353_0)]) hx hb dX5_isSame_398 hl (by decide) rfl (fun ls hl => ?_)
        refine lv_iconst (v := (0 : Int32)) hx hb dX5_isSame_400 (by decide) ?_
        refine lv_istore (lv' := [(5, .int (0 : Int32)), (4, .int (-1 : Int32)), (0, .ref g0), (1, .ref n0), (3, .ref q353_0)]) hx hb dX5_isSame_401 hl (by decide) rfl (fun ls hl => ?_)
        refine lv_iconst (v := (0 : Int32)) hx hb dX5_isSame_403 (by decide) ?_
        refine lv_istore (lv' := [(6, .int (0 : Int32)), (5, .int (0 : Int32)), (4, .int (-1 : Int32)), (0, .ref g0), (1, .ref n0), (3, .ref q353_0)]) hx hb dX5_isSame_404 hl (by decide) rfl (fun ls hl => ?_)
        refine lv_iconst (v := (0 : Int32)) hx hb dX5_isSame_406 (by decide) ?_
        refine lv_istore (lv' := [(7, .int (0 : Int32)), (6, .int (0 : Int32)), (5, .int (0 : Int32)), (4, .int (-1 : Int32)), (0, .ref g0), (1, .ref n0), (3, .ref q353_0)]) hx hb dX5_isSame_407 hl (by decide) rfl (fun ls hl => ?_)
        have hP := dx_P (ex' := ([] : va_W)) [] rfl hP
        have hD := dx_D (ex' := ([] : va_W)) [] (by decide) rfl hD
        exact L409 200 g7 g8 g9 g10 g11 g12 G9 G10 G11 G12 (-1 : Int32) (0 : Int32) (0 : Int32) (0 : Int32) _ _ hP hD hS _ (lv_sub hl [4, 5, 3, 2, 1, 0] rfl) hok
      · have hok := iq hok hc
        refine lv_aload_n hx hb dX5_isSame_360 rfl (lv_at hl 1 rfl) ?_
        refine lv_iload hx hb dX5_isSame_361 (lv_at hl 3 rfl) ?_
        obtain ⟨v25, hc25, hok⟩ := bd_some hok
        refine cRVi (ci := 4) (q0 := 0) [.int l353_4] S hK2 (va_Pmid (wa := []) hP) (c_X4_isForbidden l dC dI cI cZ n0 h0 h3 h4 h5 h6 c0 c8 c9 c10 c11 c12 c13 t0 t8 t9 t10 t11 t12 t13 i0 i1 i2 i3 i4 m0 m1 m2 uH uC uT uI uM l353_4 hc25) (lw_V qm_X5_138 qi_X4_isForbidden qs_X4_isForbidden qn_X4 qc_X4_isForbidden) hd_X4_isForbidden ⟨rfl, rfl⟩ ⟨Nat.le_of_ble_eq_true rfl, Nat.le_of_ble_eq_true rfl⟩ ⟨Nat.le_of_ble_eq_true rfl, Nat.le_of_ble_eq_true rfl⟩ rfl rfl rfl hl.1 (Nat.le_of_ble_eq_true rfl) rfl dX5_isSame_363 ?_
        refine lv_aload_n hx hb dX5_isSame_366 rfl (lv_at hl 0 rfl) ?_
        refine va_get (D := (dC, dI)) (ci := 5) (v := .ref g8) (C := RX5) (T := TX5) (N := 14) hx hb hts inX5 hown hK hP 28 rfl rfl 8 (by decide) (hts _ qf_X5_17) (fun _ h9 => h9) rfl dX5_isSame_367 ?_
        refine lv_iload hx hb dX5_isSame_370 (lv_at hl 3 rfl) ?_
        obtain ⟨hi26, hok⟩ := gd_some hok
        refine va_zald hx hb hK hP 30 1 rfl rfl hi26 dX5_isSame_372 ?_
        refine lv_icmp_ne (tgt := 389) hx hb dX5_isSame_373 (by decide) (fun hc => ?_) (fun hc => ?_)
        · have hok := iq hok hc
          refine lv_iconst (v := (0 : Int32)) hx hb dX5_isSame_389 (by decide) ?_
          have hok := Option.some.inj hok
          subst hok
          exact eAz S hr hlk (by decide) rfl (g7, g8, g9, g10, g11, g12, G9, G10, G11, G12) (nx_P hP) (nx_D hD) hS (Nat.le_of_ble_eq_true rfl) (Nat.le_of_ble_eq_true rfl) dX5_isSame_390
        · have hok := ip hok hc
          refine lv_aload_n hx hb dX5_isSame_376 rfl (lv_at hl 1 rfl) ?_
          refine lv_iload hx hb dX5_isSame_377 (lv_at hl 3 rfl) ?_
          obtain ⟨v27, hc27, hok⟩ := bd_some hok
          refine cRVi (ci := 4) (q0 := 0) [.int l353_4] S hK2 (va_Pmid (wa := []) hP) (c_X4_toCome l dC dI cI cZ n0 h0 h3 h4 h5 h6 c0 c8 c9 c10 c11 c12 c13 t0 t8 t9 t10 t11 t12 t13 i0 i1 i2 i3 i4 m0 m1 m2 uH uC uT uI uM l353_4 hc27) (lw_V qm_X5_141 qi_X4_toCome qs_X4_toCome qn_X4 qc_X4_toCome) hd_X4_toCome ⟨rfl, rfl⟩ ⟨Nat.le_of_ble_eq_true rfl, Nat.le_of_ble_eq_true rfl⟩ ⟨Nat.le_of_ble_eq_true rfl, Nat.le_of_ble_eq_true rfl⟩ rfl rfl rfl hl.1 (Nat.le_of_ble_eq_true rfl) rfl dX5_isSame_379 ?_
          refine lv_aload_n hx hb dX5_isSame_382 rfl (lv_at hl 2 rfl) ?_
          refine lv_iload hx hb dX5_isSame_383 (lv_at hl 3 rfl) ?_
          refine xl hx hb hK hP 0 0 rfl rfl (j := l353_4.toNatClampNeg) rfl hi26 dX5_isSame_385 ?_
          refine lv_icmp_eq (tgt := 391) hx hb dX5_isSame_386 (by decide) (fun hc => ?_) (fun hc => ?_)
          · have hok := ip hok hc
            refine lv_iinc (v := (l353_4 + 1)) (lv' := [(4, .int (l353_4 + 1)), (0, .ref g0), (1, .ref n0), (3, .ref q353_0)]) hx hb dX5_isSame_391 hl (k := 3) rfl rfl (by decide) rfl (fun ls hl => ?_)
            refine lv_goto (tgt := 353) hx hb dX5_isSame_394 (by decide) ?_
            exact ih353 g7 g8 g9 g10 g11 g12 G9 G10 G11 G12 q353_0 f353_0 (l353_4 + 1) _ _ hP hD hS _ (lv_sub hl [1, 2, 3, 0] rfl) hok
          · have hok := iq hok hc
            refine lv_iconst (v := (0 : Int32)) hx hb dX5_isSame_389 (by decide) ?_
            have hok := Option.some.inj hok
            subst hok
            exact eAz S hr hlk (by decide) rfl (g7, g8, g9, g10, g11, g12, G9, G10, G11, G12) (nx_P hP) (nx_D hD) hS (Nat.le_of_ble_eq_true rfl) (Nat.le_of_ble_eq_true rfl) dX5_isSame_390
  have L170 : ∀ n170 : Nat, ∀ (g7 : Nat) (g8 : Nat) (g9 : Nat) (g10 : Nat) (g11 : Nat) (g12 : Nat) (G9 : (Nat → Nat)) (G10 : (Nat → Nat)) (G11 : (Nat → Nat)) (G12 : (Nat → Nat)) (q170_0 : Nat) (f170_0 : (Nat → Int32)) (l170_2 : Int32) (l170_4 : Int32) (H : Heap) (locs : List Loc) (hP : va_P (dC, dI) vwCl ((wN cI cZ n0 h0 h3 h4 h5 h6 c0 c8 c9 c10 c11 c12 c13 t0 t8 t9 t10 t11 t12 t13 i0 i1 i2 i3 i4 m0 m1 m2 uH uC uT uI uM) ++ (wX5 cI cZ cJ g0 g7 g8 g9 g10 g11 g12 G9 G10 G11 G12 uG ++ [(q170_0, .inl (cI, 8, .inl f170_0))])) H) (hD : va_D A ((wN cI cZ n0 h0 h3 h4 h5 h6 c0 c8 c9 c10 c11 c12 c13 t0 t8 t9 t10 t11 t12 t13 i0 i1 i2 i3 i4 m0 m1 m2 uH uC uT uI uM) ++ (wX5 cI cZ cJ g0 g7 g8 g9 g10 g11 g12 G9 G10 G11 G12 uG ++ [(q170_0, .inl (cI, 8, .inl f170_0))]))) (hS : va_S A s.heap H locs) (ls : Array Slot) (hl : lv_has ls 15 [(0, .ref g0), (1, .ref n0), (2, .int l170_2), (3, .ref q170_0), (4, .int l170_4)]) (hok : p_X5_isSame_L170 n170 uH uC uT uI uM uG f170_0 l170_2 l170_4 = some z), W p l e { frames := 5, cells := 1, slots := 8, locals := 115 } s m args below meth c H locs 1 8 (MQ below (va_Qi (fun (r : Int32) (_ : (Nat × Nat × Nat × Nat × Nat × Nat × (Nat → Nat) × (Nat → Nat) × (Nat → Nat) × (Nat → Nat))) => r = z) (fun a9 t => va_P (dC, dI) vwCl ((wN cI cZ n0 h0 h3 h4 h5 h6 c0 c8 c9 c10 c11 c12 c13 t0 t8 t9 t10 t11 t12 t13 i0 i1 i2 i3 i4 m0 m1 m2 uH uC uT uI uM) ++ wX5 cI cZ cJ g0 a9.1 a9.2.1 a9.2.2.1 a9.2.2.2.1 a9.2.2.2.2.1 a9.2.2.2.2.2.1 a9.2.2.2.2.2.2.1 a9.2.2.2.2.2.2.2.1 a9.2.2.2.2.2.2.2.2.1 a9.2.2.2.2.2.2.2.2.2 uG) t.heap ∧ va_D A ((wN cI cZ n0 h0 h3 h4 h5 h6 c0 c8 c9 c10 c11 c12 c13 t0 t8 t9 t10 t11 t12 t13 i0 i1 i2 i3 i4 m0 m1 m2 uH uC uT uI uM) ++ wX5 cI cZ cJ g0 a9.1 a9.2.1 a9.2.2.1 a9.2.2.2.1 a9.2.2.2.2.1 a9.2.2.2.2.2.1 a9.2.2.2.2.2.2.1 a9.2.2.2.2.2.2.2.1 a9.2.2.2.2.2.2.2.2.1 a9.2.2.2.2.2.2.2.2.2 uG)) A) args s 1 8 A) (F0 m 170 ls []) := by
    intro n170
    induction n170 with
    | zero =>
      intro g7 g8 g9 g10 g11 g12 G9 G10 G11 G12 q170_0 f170_0 l170_2 l170_4 H locs hP hD hS ls hl hok
      rw [p_X5_isSame_L170] at hok
      cases hok
    | succ n170 ih170 =>
      have L265 : ∀ n265 : Nat, ∀ (g7 : Nat) (g8 : Nat) (g9 : Nat) (g10 : Nat) (g11 : Nat) (g12 : Nat) (G9 : (Nat → Nat)) (G10 : (Nat → Nat)) (G11 : (Nat → Nat)) (G12 : (Nat → Nat)) (q265_0 : Nat) (f265_0 : (Nat → Int32)) (w265_5 : Nat) (l265_2 : Int32) (l265_4 : Int32) (l265_6 : Int32) (l265_7 : Int32) (H : Heap) (locs : List Loc) (hP : va_P (dC, dI) vwCl ((wN cI cZ n0 h0 h3 h4 h5 h6 c0 c8 c9 c10 c11 c12 c13 t0 t8 t9 t10 t11 t12 t13 i0 i1 i2 i3 i4 m0 m1 m2 uH uC uT uI uM) ++ (wX5 cI cZ cJ g0 g7 g8 g9 g10 g11 g12 G9 G10 G11 G12 uG ++ [(q265_0, .inl (cI, 8, .inl f265_0))])) H) (hD : va_D A ((wN cI cZ n0 h0 h3 h4 h5 h6 c0 c8 c9 c10 c11 c12 c13 t0 t8 t9 t10 t11 t12 t13 i0 i1 i2 i3 i4 m0 m1 m2 uH uC uT uI uM) ++ (wX5 cI cZ cJ g0 g7 g8 g9 g10 g11 g12 G9 G10 G11 G12 uG ++ [(q265_0, .inl (cI, 8, .inl f265_0))]))) (hS : va_S A s.heap H locs) (ls : Array Slot) (hl : lv_has ls 15 [(0, .ref g0), (1, .ref n0), (2, .int l265_2), (3, .ref q265_0), (4, .int l265_4), (5, .ref (G9 w265_5)), (6, .int l265_6), (7, .int l265_7)]) (hok : p_X5_isSame_L265 (p_X5_isSame_L170 n170) n265 uH uC uT uI uM uG f265_0 w265_5 l265_2 l265_4 l265_6 l265_7 = some z), W p l e { frames := 5, cells := 1, slots := 8, locals := 115 } s m args below meth c H locs 1 8 (MQ below (va_Qi (fun (r : Int32) (_ : (Nat × Nat × Nat × Nat × Nat × Nat × (Nat → Nat) × (Nat → Nat) × (Nat → Nat) × (Nat → Nat))) => r = z) (fun a9 t => va_P (dC, dI) vwCl ((wN cI cZ n0 h0 h3 h4 h5 h6 c0 c8 c9 c10 c11 c12 c13 t0 t8 t9 t10 t11 t12 t13 i0 i1 i2 i3 i4 m0 m1 m2 uH uC uT uI uM) ++ wX5 cI cZ cJ g0 a9.1 a9.2.1 a9.2.2.1 a9.2.2.2.1 a9.2.2.2.2.1 a9.2.2.2.2.2.1 a9.2.2.2.2.2.2.1 a9.2.2.2.2.2.2.2.1 a9.2.2.2.2.2.2.2.2.1 a9.2.2.2.2.2.2.2.2.2 uG) t.heap ∧ va_D A ((wN cI cZ n0 h0 h3 h4 h5 h6 c0 c8 c9 c10 c11 c12 c13 t0 t8 t9 t10 t11 t12 t13 i0 i1 i2 i3 i4 m0 m1 m2 uH uC uT uI uM) ++ wX5 cI cZ cJ g0 a9.1 a9.2.1 a9.2.2.1 a9.2.2.2.1 a9.2.2.2.2.1 a9.2.2.2.2.2.1 a9.2.2.2.2.2.2.1 a9.2.2.2.2.2.2.2.1 a9.2.2.2.2.2.2.2.2.1 a9.2.2.2.2.2.2.2.2.2 uG)) A) args s 1 8 A) (F0 m 265 ls []) := by
        intro n265
        induction n265 with
        | zero =>
          intro g7 g8 g9 g10 g11 g12 G9 G10 G11 G12 q265_0 f265_0 w265_5 l265_2 l265_4 l265_6 l265_7 H locs hP hD hS ls hl hok
          rw [p_X5_isSame_L265] at hok
          cases hok
        | succ n265 ih265 =>
          intro g7 g8 g9 g10 g11 g12 G9 G10 G11 G12 q265_0 f265_0 w265_5 l265_2 l265_4 l265_6 l265_7 H locs hP hD hS ls hl hok
          rw [p_X5_isSame_L265] at hok
          refine lv_iload hx hb dX5_isSame_265 (lv_at hl 7 rfl) ?_
          refine lv_iload hx hb dX5_isSame_267 (lv_at hl 6 rfl) ?_
          refine lv_icmp_ge (tgt := 344) hx hb dX5_isSame_269 (by decide) (fun hc => ?_) (fun hc => ?_)
          · have hok := ip hok hc
            refine lv_iinc (v := (l265_4 + 1)) (lv' := [(4, .int (l265_4 + 1)), (0, .ref g0), (1, .ref n0), (2, .int l265_2), (3, .ref q265_0), (5, .ref (G9 w265_5)), (6, .int l265_6), (7, .int l265_7)]) hx hb dX5_isSame_344 hl (k := 4) rfl rfl (by decide) rfl (fun ls hl => ?_)
            refine lv_goto (tgt := 170) hx hb dX5_isSame_347 (by decide) ?_
            exact ih170 g7 g8 g9 g10 g11 g12 G9 G10 G11 G12 q265_0 f265_0 l265_2 (l265_4 + 1) _ _ hP hD hS _ (lv_sub hl [1, 2, 3, 4, 0] rfl) hok
          · have hok := iq hok hc
            refine lv_aload_n hx hb dX5_isSame_272 rfl (lv_at hl 1 rfl) ?_
            refine lv_iload hx hb dX5_isSame_273 (lv_at hl 4 rfl) ?_
            refine lv_iload hx hb dX5_isSame_275 (lv_at hl 7 rfl) ?_
            obtain ⟨v35, hc35, hok⟩ := bd_some hok
            refine cRVi (ci := 4) (q0 := 0) [.int l265_4, .int l265_7] S hK2 (va_Pmid (wa := []) hP) (c_X4_topicOf l dC dI cI cZ n0 h0 h3 h4 h5 h6 c0 c8 c9 c10 c11 c12 c13 t0 t8 t9 t10 t11 t12 t13 i0 i1 i2 i3 i4 m0 m1 m2 uH uC uT uI uM l265_4 l265_7 hc35) (lw_V qm_X5_131 qi_X4_topicOf qs_X4_topicOf qn_X4 qc_X4_topicOf) hd_X4_topicOf ⟨rfl, rfl⟩ ⟨Nat.le_of_ble_eq_true rfl, Nat.le_of_ble_eq_true rfl⟩ ⟨Nat.le_of_ble_eq_true rfl, Nat.le_of_ble_eq_true rfl⟩ rfl rfl rfl hl.1 (Nat.le_of_ble_eq_true rfl) rfl dX5_isSame_277 ?_
            refine lv_aload hx hb dX5_isSame_280 (lv_at hl 5 rfl) ?_
            refine lv_iconst (v := (2 : Int32)) hx hb dX5_isSame_282 (by decide) ?_
            refine lv_iconst (v := (2 : Int32)) hx hb dX5_isSame_283 (by decide) ?_
            refine lv_iload hx hb dX5_isSame_284 (lv_at hl 7 rfl) ?_
            refine lv_imul hx hb dX5_isSame_286 ?_
            refine lv_iadd hx hb dX5_isSame_287 ?_
            obtain ⟨hr36, hok⟩ := gN_some hok
            obtain ⟨hi37, hok⟩ := gd_some hok
            refine rl9 hx hb hK 0 rfl hP (k := w265_5) (j := ((2 : Int32) + ((2 : Int32) * l265_7)).toNatClampNeg) hr36 rfl rfl hi37 dX5_isSame_288 ?_
            refine lv_icmp_ne (tgt := 312) hx hb dX5_isSame_289 (by decide) (fun hc => ?_) (fun hc => ?_)
            · have hok := iq hok hc
              refine lv_iconst (v := (0 : Int32)) hx hb dX5_isSame_312 (by decide) ?_
              have hok := Option.some.inj hok
              subst hok
              exact eAz S hr hlk (by decide) rfl (g7, g8, g9, g10, g11, g12, G9, G10, G11, G12) (nx_P hP) (nx_D hD) hS (Nat.le_of_ble_eq_true rfl) (Nat.le_of_ble_eq_true rfl) dX5_isSame_313
            · have hok := ip hok hc
              refine lv_aload_n hx hb dX5_isSame_292 rfl (lv_at hl 1 rfl) ?_
              refine lv_iload hx hb dX5_isSame_293 (lv_at hl 4 rfl) ?_
              refine lv_iload hx hb dX5_isSame_295 (lv_at hl 7 rfl) ?_
              obtain ⟨v38, hc38, hok⟩ := bd_some hok
              refine cRVi (ci := 4) (q0 := 0) [.int l265_4, .int l265_7] S hK2 (va_Pmid (wa := []) hP) (c_X4_thrillOf l dC dI cI cZ n0 h0 h3 h4 h5 h6 c0 c8 c9 c10 c11 c12 c13 t0 t8 t9 t10 t11 t12 t13 i0 i1 i2 i3 i4 m0 m1 m2 uH uC uT uI uM l265_4 l265_7 hc38) (lw_V qm_X5_135 qi_X4_thrillOf qs_X4_thrillOf qn_X4 qc_X4_thrillOf) hd_X4_thrillOf ⟨rfl, rfl⟩ ⟨Nat.le_of_ble_eq_true rfl, Nat.le_of_ble_eq_true rfl⟩ ⟨Nat.le_of_ble_eq_true rfl, Nat.le_of_ble_eq_true rfl⟩ rfl rfl rfl hl.1 (Nat.le_of_ble_eq_true rfl) rfl dX5_isSame_297 ?_
              refine lv_aload hx hb dX5_isSame_300 (lv_at hl 5 rfl) ?_
              refine lv_iconst (v := (3 : Int32)) hx hb dX5_isSame_302 (by decide) ?_
              refine lv_iconst (v := (2 : Int32)) hx hb dX5_isSame_303 (by decide) ?_
              refine lv_iload hx hb dX5_isSame_304 (lv_at hl 7 rfl) ?_
              refine lv_imul hx hb dX5_isSame_306 ?_
              refine lv_iadd hx hb dX5_isSame_307 ?_
              obtain ⟨hi39, hok⟩ := gd_some hok
              refine rl9 hx hb hK 0 rfl hP (k := w265_5) (j := ((3 : Int32) + ((2 : Int32) * l265_7)).toNatClampNeg) hr36 rfl rfl hi39 dX5_isSame_308 ?_
              refine lv_icmp_eq (tgt := 314) hx hb dX5_isSame_309 (by decide) (fun hc => ?_) (fun hc => ?_)
              · have hok := ip hok hc
                refine lv_iload hx hb dX5_isSame_314 (lv_at hl 7 rfl) ?_
                refine lv_aload hx hb dX5_isSame_316 (lv_at hl 5 rfl) ?_
                refine lv_iconst (v := (0 : Int32)) hx hb dX5_isSame_318 (by decide) ?_
                obtain ⟨hi40, hok⟩ := gd_some hok
                refine rl9 hx hb hK 0 rfl hP (k := w265_5) (j := 0) hr36 rfl (by decide) hi40 dX5_isSame_319 ?_
                refine lv_icmp_lt (tgt := 338) hx hb dX5_isSame_320 (by decide) (fun hc => ?_) (fun hc => ?_)
                · have hok := ip hok hc
                  refine lv_iinc (v := (l265_7 + 1)) (lv' := [(7, .int (l265_7 + 1)), (0, .ref g0), (1, .ref n0), (2, .int l265_2), (3, .ref q265_0), (4, .int l265_4), (5, .ref (G9 w265_5)), (6, .int l265_6)]) hx hb dX5_isSame_338 hl (k := 7) rfl rfl (by decide) rfl (fun ls hl => ?_)
                  refine lv_goto (tgt := 265) hx hb dX5_isSame_341 (by decide) ?_
                  exact ih265 g7 g8 g9 g10 g11 g12 G9 G10 G11 G12 q265_0 f265_0 w265_5 l265_2 l265_4 l265_6 (l265_7 + 1) _ _ hP hD hS _ (lv_sub hl [1, 2, 3, 4, 5, 6, 7, 0] rfl) hok
                · have hok := iq hok hc
                  refine lv_aload_n hx hb dX5_isSame_323 rfl (lv_at hl 3 rfl) ?_
                  refine lv_aload hx hb dX5_isSame_324 (lv_at hl 5 rfl) ?_
                  refine lv_iconst (v := (2 : Int32)) hx hb dX5_isSame_326 (by decide) ?_
                  refine lv_iconst (v := (2 : Int32)) hx hb dX5_isSame_327 (by decide) ?_
                  refine lv_iload hx hb dX5_isSame_328 (lv_at hl 7 rfl) ?_
                  refine lv_imul hx hb dX5_isSame_330 ?_
                  refine lv_iadd hx hb dX5_isSame_331 ?_
                  refine rl9 hx hb hK 0 rfl hP (k := w265_5) (j := ((2 : Int32) + ((2 : Int32) * l265_7)).toNatClampNeg) hr36 rfl rfl hi37 dX5_isSame_332 ?_
                  refine lv_dup2_11 hx hb dX5_isSame_333 rfl rfl ?_
                  obtain ⟨hi41, hok⟩ := gd_some hok
                  refine xl hx hb hK hP 0 0 rfl rfl (j := ((uG.2.2.2.2.2.2.2.2.2.1.2 w265_5).2 ((2 : Int32) + ((2 : Int32) * l265_7)).toNatClampNeg).toNatClampNeg) rfl hi41 dX5_isSame_334 ?_
                  refine lv_iconst (v := (1 : Int32)) hx hb dX5_isSame_335 (by decide) ?_
                  refine lv_iadd hx hb dX5_isSame_336 ?_
                  refine xs hx hb hK hP hD hS 0 0 rfl rfl (j := ((uG.2.2.2.2.2.2.2.2.2.1.2 w265_5).2 ((2 : Int32) + ((2 : Int32) * l265_7)).toNatClampNeg).toNatClampNeg) rfl hi41 dX5_isSame_337 (fun H locs hP hD hS => ?_)
                  have hP : va_P (dC, dI) vwCl ((wN cI cZ n0 h0 h3 h4 h5 h6 c0 c8 c9 c10 c11 c12 c13 t0 t8 t9 t10 t11 t12 t13 i0 i1 i2 i3 i4 m0 m1 m2 uH uC uT uI uM) ++ (wX5 cI cZ cJ g0 g7 g8 g9 g10 g11 g12 G9 G10 G11 G12 uG ++ [(q265_0, .inl (cI, 8, .inl (upd f265_0 ((uG.2.2.2.2.2.2.2.2.2.1.2 w265_5).2 ((2 : Int32) + ((2 : Int32) * l265_7)).toNatClampNeg).toNatClampNeg ((f265_0 ((uG.2.2.2.2.2.2.2.2.2.1.2 w265_5).2 ((2 : Int32) + ((2 : Int32) * l265_7)).toNatClampNeg).toNatClampNeg) + (1 : Int32)))))])) H := hP
                  have hD : va_D A ((wN cI cZ n0 h0 h3 h4 h5 h6 c0 c8 c9 c10 c11 c12 c13 t0 t8 t9 t10 t11 t12 t13 i0 i1 i2 i3 i4 m0 m1 m2 uH uC uT uI uM) ++ (wX5 cI cZ cJ g0 g7 g8 g9 g10 g11 g12 G9 G10 G11 G12 uG ++ [(q265_0, .inl (cI, 8, .inl (upd f265_0 ((uG.2.2.2.2.2.2.2.2.2.1.2 w265_5).2 ((2 : Int32) + ((2 : Int32) * l265_7)).toNatClampNeg).toNatClampNeg ((f265_0 ((uG.2.2.2.2.2.2.2.2.2.1.2 w265_5).2 ((2 : Int32) + ((2 : Int32) * l265_7)).toNatClampNeg).toNatClampNeg) + (1 : Int32)))))])) := hD
                  refine lv_iinc (v := (l265_7 + 1)) (lv' := [(7, .int (l265_7 + 1)), (0, .ref g0), (1, .ref n0), (2, .int l265_2), (3, .ref q265_0), (4, .int l265_4), (5, .ref (G9 w265_5)), (6, .int l265_6)]) hx hb dX5_isSame_338 hl (k := 7) rfl rfl (by decide) rfl (fun ls hl => ?_)
                  refine lv_goto (tgt := 265) hx hb dX5_isSame_341 (by decide) ?_
                  exact ih265 g7 g8 g9 g10 g11 g12 G9 G10 G11 G12 q265_0 (upd f265_0 ((uG.2.2.2.2.2.2.2.2.2.1.2 w265_5).2 ((2 : Int32) + ((2 : Int32) * l265_7)).toNatClampNeg).toNatClampNeg ((f265_0 ((uG.2.2.2.2.2.2.2.2.2.1.2 w265_5).2 ((2 : Int32) + ((2 : Int32) * l265_7)).toNatClampNeg).toNatClampNeg) + (1 : Int32))) w265_5 l265_2 l265_4 l265_6 (l265_7 + 1) _ _ hP hD hS _ (lv_sub hl [1, 2, 3, 4, 5, 6, 7, 0] rfl) hok
              · have hok := iq hok hc
                refine lv_iconst (v := (0 : Int32)) hx hb dX5_isSame_312 (by decide) ?_
                have hok := Option.some.inj hok
                subst hok
                exact eAz S hr hlk (by decide) rfl (g7, g8, g9, g10, g11, g12, G9, G10, G11, G12) (nx_P hP) (nx_D hD) hS (Nat.le_of_ble_eq_true rfl) (Nat.le_of_ble_eq_true rfl) dX5_isSame_313
      have J244 : ∀ (g7 : Nat) (g8 : Nat) (g9 : Nat) (g10 : Nat) (g11 : Nat) (g12 : Nat) (G9 : (Nat → Nat)) (G10 : (Nat → Nat)) (G11 : (Nat → Nat)) (G12 : (Nat → Nat)) (q244_0 : Nat) (f244_0 : (Nat → Int32)) (w244_5 : Nat) (l244_2 : Int32) (l244_4 : Int32) (l244_6 : Int32) (s244_0 : Int32) (s244_1 : Int32) (H : Heap) (locs : List Loc) (hP : va_P (dC, dI) vwCl ((wN cI cZ n0 h0 h3 h4 h5 h6 c0 c8 c9 c10 c11 c12 c13 t0 t8 t9 t10 t11 t12 t13 i0 i1 i2 i3 i4 m0 m1 m2 uH uC uT uI uM) ++ (wX5 cI cZ cJ g0 g7 g8 g9 g10 g11 g12 G9 G10 G11 G12 uG ++ [(q244_0, .inl (cI, 8, .inl f244_0))])) H) (hD : va_D A ((wN cI cZ n0 h0 h3 h4 h5 h6 c0 c8 c9 c10 c11 c12 c13 t0 t8 t9 t10 t11 t12 t13 i0 i1 i2 i3 i4 m0 m1 m2 uH uC uT uI uM) ++ (wX5 cI cZ cJ g0 g7 g8 g9 g10 g11 g12 G9 G10 G11 G12 uG ++ [(q244_0, .inl (cI, 8, .inl f244_0))]))) (hS : va_S A s.heap H locs) (ls : Array Slot) (hl : lv_has ls 15 [(0, .ref g0), (1, .ref n0), (2, .int l244_2), (3, .ref q244_0), (4, .int l244_4), (5, .ref (G9 w244_5)), (6, .int l244_6)]) (hok : p_X5_isSame_J244 (p_X5_isSame_L170 n170) uH uC uT uI uM uG f244_0 w244_5 l244_2 l244_4 l244_6 s244_0 s244_1 = some z), W p l e { frames := 5, cells := 1, slots := 8, locals := 115 } s m args below meth c H locs 1 8 (MQ below (va_Qi (fun (r : Int32) (_ : (Nat × Nat × Nat × Nat × Nat × Nat × (Nat → Nat) × (Nat → Nat) × (Nat → Nat) × (Nat → Nat))) => r = z) (fun a9 t => va_P (dC, dI) vwCl ((wN cI cZ n0 h0 h3 h4 h5 h6 c0 c8 c9 c10 c11 c12 c13 t0 t8 t9 t10 t11 t12 t13 i0 i1 i2 i3 i4 m0 m1 m2 uH uC uT uI uM) ++ wX5 cI cZ cJ g0 a9.1 a9.2.1 a9.2.2.1 a9.2.2.2.1 a9.2.2.2.2.1 a9.2.2.2.2.2.1 a9.2.2.2.2.2.2.1 a9.2.2.2.2.2.2.2.1 a9.2.2.2.2.2.2.2.2.1 a9.2.2.2.2.2.2.2.2.2 uG) t.heap ∧ va_D A ((wN cI cZ n0 h0 h3 h4 h5 h6 c0 c8 c9 c10 c11 c12 c13 t0 t8 t9 t10 t11 t12 t13 i0 i1 i2 i3 i4 m0 m1 m2 uH uC uT uI uM) ++ wX5 cI cZ cJ g0 a9.1 a9.2.1 a9.2.2.1 a9.2.2.2.1 a9.2.2.2.2.1 a9.2.2.2.2.2.1 a9.2.2.2.2.2.2.1 a9.2.2.2.2.2.2.2.1 a9.2.2.2.2.2.2.2.2.1 a9.2.2.2.2.2.2.2.2.2 uG)) A) args s 1 8 A) (F0 m 244 ls [.int s244_0, .int s244_1]) := by
        intro g7 g8 g9 g10 g11 g12 G9 G10 G11 G12 q244_0 f244_0 w244_5 l244_2 l244_4 l244_6 s244_0 s244_1 H locs hP hD hS ls hl hok
        unfold p_X5_isSame_J244 at hok
        refine lv_icmp_ne (tgt := 260) hx hb dX5_isSame_244 (by decide) (fun hc => ?_) (fun hc => ?_)
        · have hok := iq hok hc
          refine lv_iconst (v := (0 : Int32)) hx hb dX5_isSame_260 (by decide) ?_
          have hok := Option.some.inj hok
          subst hok
          exact eAz S hr hlk (by decide) rfl (g7, g8, g9, g10, g11, g12, G9, G10, G11, G12) (nx_P hP) (nx_D hD) hS (Nat.le_of_ble_eq_true rfl) (Nat.le_of_ble_eq_true rfl) dX5_isSame_261
        · have hok := ip hok hc
          refine lv_aload_n hx hb dX5_isSame_247 rfl (lv_at hl 1 rfl) ?_
          refine lv_iload hx hb dX5_isSame_248 (lv_at hl 4 rfl) ?_
          obtain ⟨v28, hc28, hok⟩ := bd_some hok
          refine cRVi (ci := 4) (q0 := 0) [.int l244_4] S hK2 (va_Pmid (wa := []) hP) (c_X4_cutOn l dC dI cI cZ n0 h0 h3 h4 h5 h6 c0 c8 c9 c10 c11 c12 c13 t0 t8 t9 t10 t11 t12 t13 i0 i1 i2 i3 i4 m0 m1 m2 uH uC uT uI uM l244_4 hc28) (lw_V qm_X5_128 qi_X4_cutOn qs_X4_cutOn qn_X4 qc_X4_cutOn) hd_X4_cutOn ⟨rfl, rfl⟩ ⟨Nat.le_of_ble_eq_true rfl, Nat.le_of_ble_eq_true rfl⟩ ⟨Nat.le_of_ble_eq_true rfl, Nat.le_of_ble_eq_true rfl⟩ rfl rfl rfl hl.1 (Nat.le_of_ble_eq_true rfl) rfl dX5_isSame_250 ?_
          refine lv_aload hx hb dX5_isSame_253 (lv_at hl 5 rfl) ?_
          refine lv_iconst (v := (1 : Int32)) hx hb dX5_isSame_255 (by decide) ?_
          obtain ⟨hr29, hok⟩ := gN_some hok
          obtain ⟨hi30, hok⟩ := gd_some hok
          refine rl9 hx hb hK 0 rfl hP (k := w244_5) (j := 1) hr29 rfl (by decide) hi30 dX5_isSame_256 ?_
          refine lv_icmp_eq (tgt := 262) hx hb dX5_isSame_257 (by decide) (fun hc => ?_) (fun hc => ?_)
          · have hok := ip hok hc
            refine lv_iconst (v := (0 : Int32)) hx hb dX5_isSame_262 (by decide) ?_
            refine lv_istore (lv' := [(7, .int (0 : Int32)), (0, .ref g0), (1, .ref n0), (2, .int l244_2), (3, .ref q244_0), (4, .int l244_4), (5, .ref (G9 w244_5)), (6, .int l244_6)]) hx hb dX5_isSame_263 hl (by decide) rfl (fun ls hl => ?_)
            exact L265 200 g7 g8 g9 g10 g11 g12 G9 G10 G11 G12 q244_0 f244_0 w244_5 l244_2 l244_4 l244_6 (0 : Int32) _ _ hP hD hS _ (lv_sub hl [1, 2, 3, 4, 5, 6, 7, 0] rfl) hok
          · have hok := iq hok hc
            refine lv_iconst (v := (0 : Int32)) hx hb dX5_isSame_260 (by decide) ?_
            have hok := Option.some.inj hok
            subst hok
            exact eAz S hr hlk (by decide) rfl (g7, g8, g9, g10, g11, g12, G9, G10, G11, G12) (nx_P hP) (nx_D hD) hS (Nat.le_of_ble_eq_true rfl) (Nat.le_of_ble_eq_true rfl) dX5_isSame_261
      intro g7 g8 g9 g10 g11 g12 G9 G10 G11 G12 q170_0 f170_0 l170_2 l170_4 H locs hP hD hS ls hl hok
      rw [p_X5_isSame_L170] at hok
      refine lv_iload hx hb dX5_isSame_170 (lv_at hl 4 rfl) ?_
      refine lv_iload_n hx hb dX5_isSame_172 rfl (lv_at hl 2 rfl) ?_
      refine lv_icmp_ge (tgt := 350) hx hb dX5_isSame_173 (by decide) (fun hc => ?_) (fun hc => ?_)
      · have hok := ip hok hc
        refine lv_iconst (v := (0 : Int32)) hx hb dX5_isSame_350 (by decide) ?_
        refine lv_istore (lv' := [(4, .int (0 : Int32)), (0, .ref g0), (1, .ref n0), (2, .int l170_2), (3, .ref q170_0)]) hx hb dX5_isSame_351 hl (by decide) rfl (fun ls hl => ?_)
        exact L353 200 g7 g8 g9 g10 g11 g12 G9 G10 G11 G12 q170_0 f170_0 (0 : Int32) _ _ hP hD hS _ (lv_sub hl [1, 2, 4, 0] rfl) hok
      · have hok := iq hok hc
        refine lv_aload_n hx hb dX5_isSame_176 rfl (lv_at hl 0 rfl) ?_
        refine va_get (D := (dC, dI)) (ci := 5) (v := .ref g9) (C := RX5) (T := TX5) (N := 14) hx hb hts inX5 hown hK hP 28 rfl rfl 9 (by decide) (hts _ qf_X5_22) (fun _ h9 => h9) rfl dX5_isSame_177 ?_
        refine lv_iload hx hb dX5_isSame_180 (lv_at hl 4 rfl) ?_
        obtain ⟨hi19, hok⟩ := gd_some hok
        refine ra9 hx hb hK 2 rfl hP (j := l170_4.toNatClampNeg) rfl hi19 dX5_isSame_182 ?_
        refine lv_astore (lv' := [(5, .ref (G9 l170_4.toNatClampNeg)), (0, .ref g0), (1, .ref n0), (2, .int l170_2), (3, .ref q170_0), (4, .int l170_4)]) hx hb dX5_isSame_183 hl (by decide) rfl (fun ls hl => ?_)
        refine lv_aload hx hb dX5_isSame_185 (lv_at hl 0 rfl) ?_
        refine rn9 hx hb hK 0 rfl hP (k := l170_4.toNatClampNeg) (vp_inL rfl hi19) rfl dX5_isSame_187 ?_
        refine lv_iconst (v := (2 : Int32)) hx hb dX5_isSame_188 (by decide) ?_
        refine lv_isub hx hb dX5_isSame_189 ?_
        refine lv_iconst (v := (2 : Int32)) hx hb dX5_isSame_190 (by decide) ?_
        refine lv_idiv hx hb dX5_isSame_191 (by decide) ?_
        refine lv_istore (lv' := [(6, .int (((nI (uG.2.2.2.2.2.2.2.2.2.1.2 l170_4.toNatClampNeg).1) - (2 : Int32)) / (2 : Int32))), (5, .ref (G9 l170_4.toNatClampNeg)), (0, .ref g0), (1, .ref n0), (2, .int l170_2), (3, .ref q170_0), (4, .int l170_4)]) hx hb dX5_isSame_192 hl (by decide) rfl (fun ls hl => ?_)
        refine lv_aload_n hx hb dX5_isSame_194 rfl (lv_at hl 3 rfl) ?_
        refine lv_iload hx hb dX5_isSame_195 (lv_at hl 6 rfl) ?_
        obtain ⟨v20, hc20, hok⟩ := bd_some hok
        refine cRVi (ci := 4) (q0 := 0) [.int l170_4] S hK2 (va_Pmid (wa := []) hP) (c_X4_isCalled l dC dI cI cZ n0 h0 h3 h4 h5 h6 c0 c8 c9 c10 c11 c12 c13 t0 t8 t9 t10 t11 t12 t13 i0 i1 i2 i3 i4 m0 m1 m2 uH uC uT uI uM l170_4 hc20) (lw_V qm_X5_117 qi_X4_isCalled qs_X4_isCalled qn_X4 qc_X4_isCalled) hd_X4_isCalled ⟨rfl, rfl⟩ ⟨Nat.le_of_ble_eq_true rfl, Nat.le_of_ble_eq_true rfl⟩ ⟨Nat.le_of_ble_eq_true rfl, Nat.le_of_ble_eq_true rfl⟩ rfl rfl rfl hl.1 (Nat.le_of_ble_eq_true rfl) rfl dX5_isSame_197 ?_
        refine lv_aload_n hx hb dX5_isSame_200 rfl (lv_at hl 2 rfl) ?_
        refine va_get (D := (dC, dI)) (ci := 5) (v := .ref g7) (C := RX5) (T := TX5) (N := 14) hx hb hts inX5 hown hK hP 28 rfl rfl 7 (by decide) (hts _ qf_X5_13) (fun _ h9 => h9) rfl dX5_isSame_201 ?_
        refine lv_iload hx hb dX5_isSame_204 (lv_at hl 6 rfl) ?_
        obtain ⟨hi21, hok⟩ := gd_some hok
        refine va_zald hx hb hK hP 29 1 rfl rfl hi21 dX5_isSame_206 ?_
        refine lv_icmp_ne (tgt := 260) hx hb dX5_isSame_207 (by decide) (fun hc => ?_) (fun hc => ?_)
        · have hok := iq hok hc
          refine lv_iconst (v := (0 : Int32)) hx hb dX5_isSame_260 (by decide) ?_
          have hok := Option.some.inj hok
          subst hok
          exact eAz S hr hlk (by decide) rfl (g7, g8, g9, g10, g11, g12, G9, G10, G11, G12) (nx_P hP) (nx_D hD) hS (Nat.le_of_ble_eq_true rfl) (Nat.le_of_ble_eq_true rfl) dX5_isSame_261
        · have hok := ip hok hc
          refine lv_aload_n hx hb dX5_isSame_210 rfl (lv_at hl 3 rfl) ?_
          refine lv_iload hx hb dX5_isSame_211 (lv_at hl 6 rfl) ?_
          obtain ⟨v22, hc22, hok⟩ := bd_some hok
          refine cRVi (ci := 4) (q0 := 0) [.int l170_4] S hK2 (va_Pmid (wa := []) hP) (c_X4_paragraphs l dC dI cI cZ n0 h0 h3 h4 h5 h6 c0 c8 c9 c10 c11 c12 c13 t0 t8 t9 t10 t11 t12 t13 i0 i1 i2 i3 i4 m0 m1 m2 uH uC uT uI uM l170_4 hc22) (lw_V qm_X5_121 qi_X4_paragraphs qs_X4_paragraphs qn_X4 qc_X4_paragraphs) hd_X4_paragraphs ⟨rfl, rfl⟩ ⟨Nat.le_of_ble_eq_true rfl, Nat.le_of_ble_eq_true rfl⟩ ⟨Nat.le_of_ble_eq_true rfl, Nat.le_of_ble_eq_true rfl⟩ rfl rfl rfl hl.1 (Nat.le_of_ble_eq_true rfl) rfl dX5_isSame_213 ?_
          refine lv_iload hx hb dX5_isSame_216 (lv_at hl 0 rfl) ?_
          refine lv_icmp_ne (tgt := 260) hx hb dX5_isSame_218 (by decide) (fun hc => ?_) (fun hc => ?_)
          · have hok := iq hok hc
            refine lv_iconst (v := (0 : Int32)) hx hb dX5_isSame_260 (by decide) ?_
            have hok := Option.some.inj hok
            subst hok
            exact eAz S hr hlk (by decide) rfl (g7, g8, g9, g10, g11, g12, G9, G10, G11, G12) (nx_P hP) (nx_D hD) hS (Nat.le_of_ble_eq_true rfl) (Nat.le_of_ble_eq_true rfl) dX5_isSame_261
          · have hok := ip hok hc
            refine lv_aload_n hx hb dX5_isSame_221 rfl (lv_at hl 3 rfl) ?_
            refine lv_iload hx hb dX5_isSame_222 (lv_at hl 6 rfl) ?_
            obtain ⟨v23, hc23, hok⟩ := bd_some hok
            refine cRVi (ci := 4) (q0 := 0) [.int l170_4] S hK2 (va_Pmid (wa := []) hP) (c_X4_nextParagraph l dC dI cI cZ n0 h0 h3 h4 h5 h6 c0 c8 c9 c10 c11 c12 c13 t0 t8 t9 t10 t11 t12 t13 i0 i1 i2 i3 i4 m0 m1 m2 uH uC uT uI uM l170_4 hc23) (lw_V qm_X5_125 qi_X4_nextParagraph qs_X4_nextParagraph qn_X4 qc_X4_nextParagraph) hd_X4_nextParagraph ⟨rfl, rfl⟩ ⟨Nat.le_of_ble_eq_true rfl, Nat.le_of_ble_eq_true rfl⟩ ⟨Nat.le_of_ble_eq_true rfl, Nat.le_of_ble_eq_true rfl⟩ rfl rfl rfl hl.1 (Nat.le_of_ble_eq_true rfl) rfl dX5_isSame_224 ?_
            refine lv_aload hx hb dX5_isSame_227 (lv_at hl 1 rfl) ?_
            refine lv_iconst (v := (0 : Int32)) hx hb dX5_isSame_229 (by decide) ?_
            obtain ⟨hi24, hok⟩ := gd_some hok
            refine rl9 hx hb hK 0 rfl hP (k := l170_4.toNatClampNeg) (j := 0) (vp_inL rfl hi19) rfl (by decide) hi24 dX5_isSame_230 ?_
            refine lv_iload hx hb dX5_isSame_231 (lv_at hl 0 rfl) ?_
            refine lv_icmp_ne (tgt := 240) hx hb dX5_isSame_233 (by decide) (fun hc => ?_) (fun hc => ?_)
            · have hok := iq hok hc
              refine lv_aload hx hb dX5_isSame_240 (lv_at hl 1 rfl) ?_
              refine lv_iconst (v := (0 : Int32)) hx hb dX5_isSame_242 (by decide) ?_
              refine rl9 hx hb hK 0 rfl hP (k := l170_4.toNatClampNeg) (j := 0) (vp_inL rfl hi19) rfl (by decide) hi24 dX5_isSame_243 ?_
              exact J244 g7 g8 g9 g10 g11 g12 G9 G10 G11 G12 q170_0 f170_0 l170_4.toNatClampNeg l170_2 l170_4 (((nI (uG.2.2.2.2.2.2.2.2.2.1.2 l170_4.toNatClampNeg).1) - (2 : Int32)) / (2 : Int32)) ((uG.2.2.2.2.2.2.2.2.2.1.2 l170_4.toNatClampNeg).2 0) v23 _ _ hP hD hS _ (lv_sub hl [2, 3, 4, 5, 6, 1, 0] rfl) hok
            · have hok := ip hok hc
              refine lv_iconst (v := (-1 : Int32)) hx hb dX5_isSame_236 (by decide) ?_
              refine lv_goto (tgt := 244) hx hb dX5_isSame_237 (by decide) ?_
              exact J244 g7 g8 g9 g10 g11 g12 G9 G10 G11 G12 q170_0 f170_0 l170_4.toNatClampNeg l170_2 l170_4 (((nI (uG.2.2.2.2.2.2.2.2.2.1.2 l170_4.toNatClampNeg).1) - (2 : Int32)) / (2 : Int32)) (-1 : Int32) v23 _ _ hP hD hS _ (lv_sub hl [2, 3, 4, 5, 6, 1, 0] rfl) hok
  unfold p_X5_isSame at hok
  refine lv_aload_n hx hb dX5_isSame_0 rfl (lv_at hl 0 rfl) ?_
  refine va_get (D := (dC, dI)) (ci := 5) (v := .ref g9) (C := RX5) (T := TX5) (N := 14) hx hb hts inX5 hown hK hP 28 rfl rfl 9 (by decide) (hts _ qf_X5_22) (fun _ h9 => h9) rfl dX5_isSame_1 ?_
  refine va_alen (v := (nI uG.2.2.2.2.2.2.2.2.2.1.1)) hx hb hK hP 31 2 rfl rfl rfl dX5_isSame_4 ?_
  refine lv_istore_n (lv' := [(2, .int (nI uG.2.2.2.2.2.2.2.2.2.1.1)), (0, .ref g0), (1, .ref n0)]) hx hb dX5_isSame_5 rfl hl (by decide) rfl (fun ls hl => ?_)
  refine lv_aload_n hx hb dX5_isSame_6 rfl (lv_at hl 2 rfl) ?_
  obtain ⟨v1, hc1, hok⟩ := bd_some hok
  refine cRVi (ci := 4) (q0 := 0) [] S hK2 (va_Pmid (wa := []) hP) (c_X4_floors l dC dI cI cZ n0 h0 h3 h4 h5 h6 c0 c8 c9 c10 c11 c12 c13 t0 t8 t9 t10 t11 t12 t13 i0 i1 i2 i3 i4 m0 m1 m2 uH uC uT uI uM hc1) (lw_V qm_X5_78 qi_X4_floors qs_X4_floors qn_X4 qc_X4_floors) hd_X4_floors ⟨rfl, rfl⟩ ⟨Nat.le_of_ble_eq_true rfl, Nat.le_of_ble_eq_true rfl⟩ ⟨Nat.le_of_ble_eq_true rfl, Nat.le_of_ble_eq_true rfl⟩ rfl rfl rfl hl.1 (Nat.le_of_ble_eq_true rfl) rfl dX5_isSame_7 ?_
  refine lv_iload_n hx hb dX5_isSame_10 rfl (lv_at hl 0 rfl) ?_
  refine lv_icmp_ne (tgt := 160) hx hb dX5_isSame_11 (by decide) (fun hc => ?_) (fun hc => ?_)
  · have hok := iq hok hc
    refine lv_iconst (v := (0 : Int32)) hx hb dX5_isSame_160 (by decide) ?_
    have hok := Option.some.inj hok
    subst hok
    exact eAz S hr hlk (by decide) rfl (g7, g8, g9, g10, g11, g12, G9, G10, G11, G12) (nx_P hP) (nx_D hD) hS (Nat.le_of_ble_eq_true rfl) (Nat.le_of_ble_eq_true rfl) dX5_isSame_161
  · have hok := ip hok hc
    refine lv_aload_n hx hb dX5_isSame_14 rfl (lv_at hl 2 rfl) ?_
    obtain ⟨v2, hc2, hok⟩ := bd_some hok
    refine cRVi (ci := 4) (q0 := 0) [] S hK2 (va_Pmid (wa := []) hP) (c_X4_hours l dC dI cI cZ n0 h0 h3 h4 h5 h6 c0 c8 c9 c10 c11 c12 c13 t0 t8 t9 t10 t11 t12 t13 i0 i1 i2 i3 i4 m0 m1 m2 uH uC uT uI uM hc2) (lw_V qm_X5_83 qi_X4_hours qs_X4_hours qn_X4 qc_X4_hours) hd_X4_hours ⟨rfl, rfl⟩ ⟨Nat.le_of_ble_eq_true rfl, Nat.le_of_ble_eq_true rfl⟩ ⟨Nat.le_of_ble_eq_true rfl, Nat.le_of_ble_eq_true rfl⟩ rfl rfl rfl hl.1 (Nat.le_of_ble_eq_true rfl) rfl dX5_isSame_15 ?_
    refine lv_aload_n hx hb dX5_isSame_18 rfl (lv_at hl 1 rfl) ?_
    refine va_get (D := (dC, dI)) (ci := 5) (v := .int uG.1) (C := RX5) (T := TX5) (N := 14) hx hb hts inX5 hown hK hP 28 rfl rfl 0 (by decide) (hts _ qf_X5_54) (fun _ h9 => h9) rfl dX5_isSame_19 ?_
    refine lv_icmp_ne (tgt := 160) hx hb dX5_isSame_22 (by decide) (fun hc => ?_) (fun hc => ?_)
    · have hok := iq hok hc
      refine lv_iconst (v := (0 : Int32)) hx hb dX5_isSame_160 (by decide) ?_
      have hok := Option.some.inj hok
      subst hok
      exact eAz S hr hlk (by decide) rfl (g7, g8, g9, g10, g11, g12, G9, G10, G11, G12) (nx_P hP) (nx_D hD) hS (Nat.le_of_ble_eq_true rfl) (Nat.le_of_ble_eq_true rfl) dX5_isSame_161
    · have hok := ip hok hc
      refine lv_aload_n hx hb dX5_isSame_25 rfl (lv_at hl 2 rfl) ?_
      obtain ⟨v3, hc3, hok⟩ := bd_some hok
      refine cRVi (ci := 4) (q0 := 0) [] S hK2 (va_Pmid (wa := []) hP) (c_X4_liftAt l dC dI cI cZ n0 h0 h3 h4 h5 h6 c0 c8 c9 c10 c11 c12 c13 t0 t8 t9 t10 t11 t12 t13 i0 i1 i2 i3 i4 m0 m1 m2 uH uC uT uI uM hc3) (lw_V qm_X5_86 qi_X4_liftAt qs_X4_liftAt qn_X4 qc_X4_liftAt) hd_X4_liftAt ⟨rfl, rfl⟩ ⟨Nat.le_of_ble_eq_true rfl, Nat.le_of_ble_eq_true rfl⟩ ⟨Nat.le_of_ble_eq_true rfl, Nat.le_of_ble_eq_true rfl⟩ rfl rfl rfl hl.1 (Nat.le_of_ble_eq_true rfl) rfl dX5_isSame_26 ?_
      refine lv_aload_n hx hb dX5_isSame_29 rfl (lv_at hl 1 rfl) ?_
      refine va_get (D := (dC, dI)) (ci := 5) (v := .int uG.2.1) (C := RX5) (T := TX5) (N := 14) hx hb hts inX5 hown hK hP 28 rfl rfl 1 (by decide) (hts _ qf_X5_36) (fun _ h9 => h9) rfl dX5_isSame_30 ?_
      refine lv_icmp_ne (tgt := 160) hx hb dX5_isSame_33 (by decide) (fun hc => ?_) (fun hc => ?_)
      · have hok := iq hok hc
        refine lv_iconst (v := (0 : Int32)) hx hb dX5_isSame_160 (by decide) ?_
        have hok := Option.some.inj hok
        subst hok
        exact eAz S hr hlk (by decide) rfl (g7, g8, g9, g10, g11, g12, G9, G10, G11, G12) (nx_P hP) (nx_D hD) hS (Nat.le_of_ble_eq_true rfl) (Nat.le_of_ble_eq_true rfl) dX5_isSame_161
      · have hok := ip hok hc
        refine lv_aload_n hx hb dX5_isSame_36 rfl (lv_at hl 2 rfl) ?_
        obtain ⟨v4, hc4, hok⟩ := bd_some hok
        refine cRVi (ci := 4) (q0 := 0) [] S hK2 (va_Pmid (wa := []) hP) (c_X4_goes l dC dI cI cZ n0 h0 h3 h4 h5 h6 c0 c8 c9 c10 c11 c12 c13 t0 t8 t9 t10 t11 t12 t13 i0 i1 i2 i3 i4 m0 m1 m2 uH uC uT uI uM hc4) (lw_V qm_X5_89 qi_X4_goes qs_X4_goes qn_X4 qc_X4_goes) hd_X4_goes ⟨rfl, rfl⟩ ⟨Nat.le_of_ble_eq_true rfl, Nat.le_of_ble_eq_true rfl⟩ ⟨Nat.le_of_ble_eq_true rfl, Nat.le_of_ble_eq_true rfl⟩ rfl rfl rfl hl.1 (Nat.le_of_ble_eq_true rfl) rfl dX5_isSame_37 ?_
        refine lv_aload_n hx hb dX5_isSame_40 rfl (lv_at hl 1 rfl) ?_
        refine va_get (D := (dC, dI)) (ci := 5) (v := .int uG.2.2.1) (C := RX5) (T := TX5) (N := 14) hx hb hts inX5 hown hK hP 28 rfl rfl 2 (by decide) (hts _ qf_X5_39) (fun _ h9 => h9) rfl dX5_isSame_41 ?_
        refine lv_icmp_ne (tgt := 160) hx hb dX5_isSame_44 (by decide) (fun hc => ?_) (fun hc => ?_)
        · have hok := iq hok hc
          refine lv_iconst (v := (0 : Int32)) hx hb dX5_isSame_160 (by decide) ?_
          have hok := Option.some.inj hok
          subst hok
          exact eAz S hr hlk (by decide) rfl (g7, g8, g9, g10, g11, g12, G9, G10, G11, G12) (nx_P hP) (nx_D hD) hS (Nat.le_of_ble_eq_true rfl) (Nat.le_of_ble_eq_true rfl) dX5_isSame_161
        · have hok := ip hok hc
          refine lv_aload_n hx hb dX5_isSame_47 rfl (lv_at hl 2 rfl) ?_
          obtain ⟨v5, hc5, hok⟩ := bd_some hok
          refine cRVi (ci := 4) (q0 := 0) [] S hK2 (va_Pmid (wa := []) hP) (c_X4_calls l dC dI cI cZ n0 h0 h3 h4 h5 h6 c0 c8 c9 c10 c11 c12 c13 t0 t8 t9 t10 t11 t12 t13 i0 i1 i2 i3 i4 m0 m1 m2 uH uC uT uI uM hc5) (lw_V qm_X5_92 qi_X4_calls qs_X4_calls qn_X4 qc_X4_calls) hd_X4_calls ⟨rfl, rfl⟩ ⟨Nat.le_of_ble_eq_true rfl, Nat.le_of_ble_eq_true rfl⟩ ⟨Nat.le_of_ble_eq_true rfl, Nat.le_of_ble_eq_true rfl⟩ rfl rfl rfl hl.1 (Nat.le_of_ble_eq_true rfl) rfl dX5_isSame_48 ?_
          refine lv_aload_n hx hb dX5_isSame_51 rfl (lv_at hl 1 rfl) ?_
          obtain ⟨v6, hc6, hok⟩ := bd_some hok
          refine cRVi (ci := 5) (q0 := 0) [] S hK (va_Pmid hP) (c_X5_calls l dC dI cI cZ cJ g0 g7 g8 g9 g10 g11 g12 G9 G10 G11 G12 uG hc6) (lw_V qm_X5_61 qi_X5_calls qs_X5_calls qn_X5 qc_X5_calls) hd_X5_calls ⟨rfl, rfl⟩ ⟨Nat.le_of_ble_eq_true rfl, Nat.le_of_ble_eq_true rfl⟩ ⟨Nat.le_of_ble_eq_true rfl, Nat.le_of_ble_eq_true rfl⟩ rfl rfl rfl hl.1 (Nat.le_of_ble_eq_true rfl) rfl dX5_isSame_52 ?_
          refine lv_icmp_ne (tgt := 160) hx hb dX5_isSame_55 (by decide) (fun hc => ?_) (fun hc => ?_)
          · have hok := iq hok hc
            refine lv_iconst (v := (0 : Int32)) hx hb dX5_isSame_160 (by decide) ?_
            have hok := Option.some.inj hok
            subst hok
            exact eAz S hr hlk (by decide) rfl (g7, g8, g9, g10, g11, g12, G9, G10, G11, G12) (nx_P hP) (nx_D hD) hS (Nat.le_of_ble_eq_true rfl) (Nat.le_of_ble_eq_true rfl) dX5_isSame_161
          · have hok := ip hok hc
            refine lv_aload_n hx hb dX5_isSame_58 rfl (lv_at hl 2 rfl) ?_
            obtain ⟨v7, hc7, hok⟩ := bd_some hok
            refine cRVi (ci := 4) (q0 := 0) [] S hK2 (va_Pmid (wa := []) hP) (c_X4_stuckFor l dC dI cI cZ n0 h0 h3 h4 h5 h6 c0 c8 c9 c10 c11 c12 c13 t0 t8 t9 t10 t11 t12 t13 i0 i1 i2 i3 i4 m0 m1 m2 uH uC uT uI uM hc7) (lw_V qm_X5_93 qi_X4_stuckFor qs_X4_stuckFor qn_X4 qc_X4_stuckFor) hd_X4_stuckFor ⟨rfl, rfl⟩ ⟨Nat.le_of_ble_eq_true rfl, Nat.le_of_ble_eq_true rfl⟩ ⟨Nat.le_of_ble_eq_true rfl, Nat.le_of_ble_eq_true rfl⟩ rfl rfl rfl hl.1 (Nat.le_of_ble_eq_true rfl) rfl dX5_isSame_59 ?_
            refine lv_aload_n hx hb dX5_isSame_62 rfl (lv_at hl 1 rfl) ?_
            refine va_get (D := (dC, dI)) (ci := 5) (v := .int uG.2.2.2.1) (C := RX5) (T := TX5) (N := 14) hx hb hts inX5 hown hK hP 28 rfl rfl 3 (by decide) (hts _ qf_X5_42) (fun _ h9 => h9) rfl dX5_isSame_63 ?_
            refine lv_icmp_ne (tgt := 160) hx hb dX5_isSame_66 (by decide) (fun hc => ?_) (fun hc => ?_)
            · have hok := iq hok hc
              refine lv_iconst (v := (0 : Int32)) hx hb dX5_isSame_160 (by decide) ?_
              have hok := Option.some.inj hok
              subst hok
              exact eAz S hr hlk (by decide) rfl (g7, g8, g9, g10, g11, g12, G9, G10, G11, G12) (nx_P hP) (nx_D hD) hS (Nat.le_of_ble_eq_true rfl) (Nat.le_of_ble_eq_true rfl) dX5_isSame_161
            · have hok := ip hok hc
              refine lv_aload_n hx hb dX5_isSame_69 rfl (lv_at hl 2 rfl) ?_
              obtain ⟨v8, hc8, hok⟩ := bd_some hok
              refine cRVi (ci := 4) (q0 := 0) [] S hK2 (va_Pmid (wa := []) hP) (c_X4_wear l dC dI cI cZ n0 h0 h3 h4 h5 h6 c0 c8 c9 c10 c11 c12 c13 t0 t8 t9 t10 t11 t12 t13 i0 i1 i2 i3 i4 m0 m1 m2 uH uC uT uI uM hc8) (lw_V qm_X5_96 qi_X4_wear qs_X4_wear qn_X4 qc_X4_wear) hd_X4_wear ⟨rfl, rfl⟩ ⟨Nat.le_of_ble_eq_true rfl, Nat.le_of_ble_eq_true rfl⟩ ⟨Nat.le_of_ble_eq_true rfl, Nat.le_of_ble_eq_true rfl⟩ rfl rfl rfl hl.1 (Nat.le_of_ble_eq_true rfl) rfl dX5_isSame_70 ?_
              refine lv_aload_n hx hb dX5_isSame_73 rfl (lv_at hl 1 rfl) ?_
              refine va_get (D := (dC, dI)) (ci := 5) (v := .int uG.2.2.2.2.1) (C := RX5) (T := TX5) (N := 14) hx hb hts inX5 hown hK hP 28 rfl rfl 4 (by decide) (hts _ qf_X5_45) (fun _ h9 => h9) rfl dX5_isSame_74 ?_
              refine lv_icmp_ne (tgt := 160) hx hb dX5_isSame_77 (by decide) (fun hc => ?_) (fun hc => ?_)
              · have hok := iq hok hc
                refine lv_iconst (v := (0 : Int32)) hx hb dX5_isSame_160 (by decide) ?_
                have hok := Option.some.inj hok
                subst hok
                exact eAz S hr hlk (by decide) rfl (g7, g8, g9, g10, g11, g12, G9, G10, G11, G12) (nx_P hP) (nx_D hD) hS (Nat.le_of_ble_eq_true rfl) (Nat.le_of_ble_eq_true rfl) dX5_isSame_161
              · have hok := ip hok hc
                refine lv_aload_n hx hb dX5_isSame_80 rfl (lv_at hl 2 rfl) ?_
                obtain ⟨v9, hc9, hok⟩ := bd_some hok
                refine cRVi (ci := 4) (q0 := 0) [] S hK2 (va_Pmid (wa := []) hP) (c_X4_limit l dC dI cI cZ n0 h0 h3 h4 h5 h6 c0 c8 c9 c10 c11 c12 c13 t0 t8 t9 t10 t11 t12 t13 i0 i1 i2 i3 i4 m0 m1 m2 uH uC uT uI uM hc9) (lw_V qm_X5_98 qi_X4_limit qs_X4_limit qn_X4 qc_X4_limit) hd_X4_limit ⟨rfl, rfl⟩ ⟨Nat.le_of_ble_eq_true rfl, Nat.le_of_ble_eq_true rfl⟩ ⟨Nat.le_of_ble_eq_true rfl, Nat.le_of_ble_eq_true rfl⟩ rfl rfl rfl hl.1 (Nat.le_of_ble_eq_true rfl) rfl dX5_isSame_81 ?_
                refine lv_aload_n hx hb dX5_isSame_84 rfl (lv_at hl 1 rfl) ?_
                refine va_get (D := (dC, dI)) (ci := 5) (v := .int uG.2.2.2.2.2.1) (C := RX5) (T := TX5) (N := 14) hx hb hts inX5 hown hK hP 28 rfl rfl 5 (by decide) (hts _ qf_X5_7) (fun _ h9 => h9) rfl dX5_isSame_85 ?_
                refine lv_icmp_ne (tgt := 160) hx hb dX5_isSame_88 (by decide) (fun hc => ?_) (fun hc => ?_)
                · have hok := iq hok hc
                  refine lv_iconst (v := (0 : Int32)) hx hb dX5_isSame_160 (by decide) ?_
                  have hok := Option.some.inj hok
                  subst hok
                  exact eAz S hr hlk (by decide) rfl (g7, g8, g9, g10, g11, g12, G9, G10, G11, G12) (nx_P hP) (nx_D hD) hS (Nat.le_of_ble_eq_true rfl) (Nat.le_of_ble_eq_true rfl) dX5_isSame_161
                · have hok := ip hok hc
                  refine lv_aload_n hx hb dX5_isSame_91 rfl (lv_at hl 2 rfl) ?_
                  obtain ⟨v10, hc10, hok⟩ := bd_some hok
                  refine cRVi (ci := 4) (q0 := 0) [] S hK2 (va_Pmid (wa := []) hP) (c_X4_suspense l dC dI cI cZ n0 h0 h3 h4 h5 h6 c0 c8 c9 c10 c11 c12 c13 t0 t8 t9 t10 t11 t12 t13 i0 i1 i2 i3 i4 m0 m1 m2 uH uC uT uI uM hc10) (lw_V qm_X5_100 qi_X4_suspense qs_X4_suspense qn_X4 qc_X4_suspense) hd_X4_suspense ⟨rfl, rfl⟩ ⟨Nat.le_of_ble_eq_true rfl, Nat.le_of_ble_eq_true rfl⟩ ⟨Nat.le_of_ble_eq_true rfl, Nat.le_of_ble_eq_true rfl⟩ rfl rfl rfl hl.1 (Nat.le_of_ble_eq_true rfl) rfl dX5_isSame_92 ?_
                  refine lv_aload_n hx hb dX5_isSame_95 rfl (lv_at hl 1 rfl) ?_
                  refine va_get (D := (dC, dI)) (ci := 5) (v := .int uG.2.2.2.2.2.2.1) (C := RX5) (T := TX5) (N := 14) hx hb hts inX5 hown hK hP 28 rfl rfl 6 (by decide) (hts _ qf_X5_48) (fun _ h9 => h9) rfl dX5_isSame_96 ?_
                  refine lv_icmp_ne (tgt := 160) hx hb dX5_isSame_99 (by decide) (fun hc => ?_) (fun hc => ?_)
                  · have hok := iq hok hc
                    refine lv_iconst (v := (0 : Int32)) hx hb dX5_isSame_160 (by decide) ?_
                    have hok := Option.some.inj hok
                    subst hok
                    exact eAz S hr hlk (by decide) rfl (g7, g8, g9, g10, g11, g12, G9, G10, G11, G12) (nx_P hP) (nx_D hD) hS (Nat.le_of_ble_eq_true rfl) (Nat.le_of_ble_eq_true rfl) dX5_isSame_161
                  · have hok := ip hok hc
                    refine lv_aload_n hx hb dX5_isSame_102 rfl (lv_at hl 2 rfl) ?_
                    obtain ⟨v11, hc11, hok⟩ := bd_some hok
                    refine cRVi (ci := 4) (q0 := 0) [] S hK2 (va_Pmid (wa := []) hP) (c_X4_cuts l dC dI cI cZ n0 h0 h3 h4 h5 h6 c0 c8 c9 c10 c11 c12 c13 t0 t8 t9 t10 t11 t12 t13 i0 i1 i2 i3 i4 m0 m1 m2 uH uC uT uI uM hc11) (lw_V qm_X5_102 qi_X4_cuts qs_X4_cuts qn_X4 qc_X4_cuts) hd_X4_cuts ⟨rfl, rfl⟩ ⟨Nat.le_of_ble_eq_true rfl, Nat.le_of_ble_eq_true rfl⟩ ⟨Nat.le_of_ble_eq_true rfl, Nat.le_of_ble_eq_true rfl⟩ rfl rfl rfl hl.1 (Nat.le_of_ble_eq_true rfl) rfl dX5_isSame_103 ?_
                    refine lv_aload_n hx hb dX5_isSame_106 rfl (lv_at hl 1 rfl) ?_
                    obtain ⟨v12, hc12, hok⟩ := bd_some hok
                    refine cRVi (ci := 5) (q0 := 0) [] S hK (va_Pmid hP) (c_X5_cuts l dC dI cI cZ cJ g0 g7 g8 g9 g10 g11 g12 G9 G10 G11 G12 uG hc12) (lw_V qm_X5_105 qi_X5_cuts qs_X5_cuts qn_X5 qc_X5_cuts) hd_X5_cuts ⟨rfl, rfl⟩ ⟨Nat.le_of_ble_eq_true rfl, Nat.le_of_ble_eq_true rfl⟩ ⟨Nat.le_of_ble_eq_true rfl, Nat.le_of_ble_eq_true rfl⟩ rfl rfl rfl hl.1 (Nat.le_of_ble_eq_true rfl) rfl dX5_isSame_107 ?_
                    refine lv_icmp_ne (tgt := 160) hx hb dX5_isSame_110 (by decide) (fun hc => ?_) (fun hc => ?_)
                    · have hok := iq hok hc
                      refine lv_iconst (v := (0 : Int32)) hx hb dX5_isSame_160 (by decide) ?_
                      have hok := Option.some.inj hok
                      subst hok
                      exact eAz S hr hlk (by decide) rfl (g7, g8, g9, g10, g11, g12, G9, G10, G11, G12) (nx_P hP) (nx_D hD) hS (Nat.le_of_ble_eq_true rfl) (Nat.le_of_ble_eq_true rfl) dX5_isSame_161
                    · have hok := ip hok hc
                      refine lv_aload_n hx hb dX5_isSame_113 rfl (lv_at hl 2 rfl) ?_
                      obtain ⟨v13, hc13, hok⟩ := bd_some hok
                      refine cRVi (ci := 4) (q0 := 0) [] S hK2 (va_Pmid (wa := []) hP) (c_X4_instalments l dC dI cI cZ n0 h0 h3 h4 h5 h6 c0 c8 c9 c10 c11 c12 c13 t0 t8 t9 t10 t11 t12 t13 i0 i1 i2 i3 i4 m0 m1 m2 uH uC uT uI uM hc13) (lw_V qm_X5_106 qi_X4_instalments qs_X4_instalments qn_X4 qc_X4_instalments) hd_X4_instalments ⟨rfl, rfl⟩ ⟨Nat.le_of_ble_eq_true rfl, Nat.le_of_ble_eq_true rfl⟩ ⟨Nat.le_of_ble_eq_true rfl, Nat.le_of_ble_eq_true rfl⟩ rfl rfl rfl hl.1 (Nat.le_of_ble_eq_true rfl) rfl dX5_isSame_114 ?_
                      refine lv_aload_n hx hb dX5_isSame_117 rfl (lv_at hl 1 rfl) ?_
                      refine va_get (D := (dC, dI)) (ci := 5) (v := .ref g12) (C := RX5) (T := TX5) (N := 14) hx hb hts inX5 hown hK hP 28 rfl rfl 12 (by decide) (hts _ qf_X5_33) (fun _ h9 => h9) rfl dX5_isSame_118 ?_
                      refine va_alen (v := (nI uG.2.2.2.2.2.2.2.2.2.2.2.2.1.1)) hx hb hK hP 34 2 rfl rfl rfl dX5_isSame_121 ?_
                      refine lv_icmp_ne (tgt := 160) hx hb dX5_isSame_122 (by decide) (fun hc => ?_) (fun hc => ?_)
                      · have hok := iq hok hc
                        refine lv_iconst (v := (0 : Int32)) hx hb dX5_isSame_160 (by decide) ?_
                        have hok := Option.some.inj hok
                        subst hok
                        exact eAz S hr hlk (by decide) rfl (g7, g8, g9, g10, g11, g12, G9, G10, G11, G12) (nx_P hP) (nx_D hD) hS (Nat.le_of_ble_eq_true rfl) (Nat.le_of_ble_eq_true rfl) dX5_isSame_161
                      · have hok := ip hok hc
                        refine lv_aload_n hx hb dX5_isSame_125 rfl (lv_at hl 2 rfl) ?_
                        obtain ⟨v14, hc14, hok⟩ := bd_some hok
                        refine cRVi (ci := 4) (q0 := 0) [] S hK2 (va_Pmid (wa := []) hP) (c_X4_readers l dC dI cI cZ n0 h0 h3 h4 h5 h6 c0 c8 c9 c10 c11 c12 c13 t0 t8 t9 t10 t11 t12 t13 i0 i1 i2 i3 i4 m0 m1 m2 uH uC uT uI uM hc14) (lw_V qm_X5_109 qi_X4_readers qs_X4_readers qn_X4 qc_X4_readers) hd_X4_readers ⟨rfl, rfl⟩ ⟨Nat.le_of_ble_eq_true rfl, Nat.le_of_ble_eq_true rfl⟩ ⟨Nat.le_of_ble_eq_true rfl, Nat.le_of_ble_eq_true rfl⟩ rfl rfl rfl hl.1 (Nat.le_of_ble_eq_true rfl) rfl dX5_isSame_126 ?_
                        refine lv_aload_n hx hb dX5_isSame_129 rfl (lv_at hl 1 rfl) ?_
                        refine va_get (D := (dC, dI)) (ci := 5) (v := .ref g10) (C := RX5) (T := TX5) (N := 14) hx hb hts inX5 hown hK hP 28 rfl rfl 10 (by decide) (hts _ qf_X5_27) (fun _ h9 => h9) rfl dX5_isSame_130 ?_
                        refine va_alen (v := (nI uG.2.2.2.2.2.2.2.2.2.2.1.1)) hx hb hK hP 32 2 rfl rfl rfl dX5_isSame_133 ?_
                        refine lv_icmp_ne (tgt := 160) hx hb dX5_isSame_134 (by decide) (fun hc => ?_) (fun hc => ?_)
                        · have hok := iq hok hc
                          refine lv_iconst (v := (0 : Int32)) hx hb dX5_isSame_160 (by decide) ?_
                          have hok := Option.some.inj hok
                          subst hok
                          exact eAz S hr hlk (by decide) rfl (g7, g8, g9, g10, g11, g12, G9, G10, G11, G12) (nx_P hP) (nx_D hD) hS (Nat.le_of_ble_eq_true rfl) (Nat.le_of_ble_eq_true rfl) dX5_isSame_161
                        · have hok := ip hok hc
                          refine lv_aload_n hx hb dX5_isSame_137 rfl (lv_at hl 2 rfl) ?_
                          obtain ⟨v15, hc15, hok⟩ := bd_some hok
                          refine cRVi (ci := 4) (q0 := 0) [] S hK2 (va_Pmid (wa := []) hP) (c_X4_subscribers l dC dI cI cZ n0 h0 h3 h4 h5 h6 c0 c8 c9 c10 c11 c12 c13 t0 t8 t9 t10 t11 t12 t13 i0 i1 i2 i3 i4 m0 m1 m2 uH uC uT uI uM hc15) (lw_V qm_X5_111 qi_X4_subscribers qs_X4_subscribers qn_X4 qc_X4_subscribers) hd_X4_subscribers ⟨rfl, rfl⟩ ⟨Nat.le_of_ble_eq_true rfl, Nat.le_of_ble_eq_true rfl⟩ ⟨Nat.le_of_ble_eq_true rfl, Nat.le_of_ble_eq_true rfl⟩ rfl rfl rfl hl.1 (Nat.le_of_ble_eq_true rfl) rfl dX5_isSame_138 ?_
                          refine lv_aload_n hx hb dX5_isSame_141 rfl (lv_at hl 1 rfl) ?_
                          obtain ⟨v16, hc16, hok⟩ := bd_some hok
                          refine cRVi (ci := 5) (q0 := 0) [] S hK (va_Pmid hP) (c_X5_subscribers l dC dI cI cZ cJ g0 g7 g8 g9 g10 g11 g12 G9 G10 G11 G12 uG hc16) (lw_V qm_X5_114 qi_X5_subscribers qs_X5_subscribers qn_X5 qc_X5_subscribers) hd_X5_subscribers ⟨rfl, rfl⟩ ⟨Nat.le_of_ble_eq_true rfl, Nat.le_of_ble_eq_true rfl⟩ ⟨Nat.le_of_ble_eq_true rfl, Nat.le_of_ble_eq_true rfl⟩ rfl rfl rfl hl.1 (Nat.le_of_ble_eq_true rfl) rfl dX5_isSame_142 ?_
                          refine lv_icmp_ne (tgt := 160) hx hb dX5_isSame_145 (by decide) (fun hc => ?_) (fun hc => ?_)
                          · have hok := iq hok hc
                            refine lv_iconst (v := (0 : Int32)) hx hb dX5_isSame_160 (by decide) ?_
                            have hok := Option.some.inj hok
                            subst hok
                            exact eAz S hr hlk (by decide) rfl (g7, g8, g9, g10, g11, g12, G9, G10, G11, G12) (nx_P hP) (nx_D hD) hS (Nat.le_of_ble_eq_true rfl) (Nat.le_of_ble_eq_true rfl) dX5_isSame_161
                          · have hok := ip hok hc
                            refine lv_aload_n hx hb dX5_isSame_148 rfl (lv_at hl 2 rfl) ?_
                            obtain ⟨v17, hc17, hok⟩ := bd_some hok
                            refine cRVi (ci := 4) (q0 := 0) [] S hK2 (va_Pmid (wa := []) hP) (c_X4_mirrors l dC dI cI cZ n0 h0 h3 h4 h5 h6 c0 c8 c9 c10 c11 c12 c13 t0 t8 t9 t10 t11 t12 t13 i0 i1 i2 i3 i4 m0 m1 m2 uH uC uT uI uM hc17) (lw_V qm_X5_115 qi_X4_mirrors qs_X4_mirrors qn_X4 qc_X4_mirrors) hd_X4_mirrors ⟨rfl, rfl⟩ ⟨Nat.le_of_ble_eq_true rfl, Nat.le_of_ble_eq_true rfl⟩ ⟨Nat.le_of_ble_eq_true rfl, Nat.le_of_ble_eq_true rfl⟩ rfl rfl rfl hl.1 (Nat.le_of_ble_eq_true rfl) rfl dX5_isSame_149 ?_
                            refine lv_aload_n hx hb dX5_isSame_152 rfl (lv_at hl 1 rfl) ?_
                            refine va_get (D := (dC, dI)) (ci := 5) (v := .ref g11) (C := RX5) (T := TX5) (N := 14) hx hb hts inX5 hown hK hP 28 rfl rfl 11 (by decide) (hts _ qf_X5_30) (fun _ h9 => h9) rfl dX5_isSame_153 ?_
                            refine va_alen (v := (nI uG.2.2.2.2.2.2.2.2.2.2.2.1.1)) hx hb hK hP 33 2 rfl rfl rfl dX5_isSame_156 ?_
                            refine lv_icmp_eq (tgt := 162) hx hb dX5_isSame_157 (by decide) (fun hc => ?_) (fun hc => ?_)
                            · have hok := ip hok hc
                              refine lv_bipush (v := (8 : Int32)) hx hb dX5_isSame_162 (by decide) ?_
                              refine va_newaI (n := 8) hx hb (hts _ qy_int) hK 0 rfl hP hD hS hA (by decide) (by decide) (by decide) (Nat.le_of_ble_eq_true rfl) (Nat.le_of_ble_eq_true rfl) dX5_isSame_164 (fun q18 H hP hD hS => ?_)
                              have hP := ra_P hP
                              have hD := ra_D hD
                              have hP : va_P (dC, dI) vwCl ((wN cI cZ n0 h0 h3 h4 h5 h6 c0 c8 c9 c10 c11 c12 c13 t0 t8 t9 t10 t11 t12 t13 i0 i1 i2 i3 i4 m0 m1 m2 uH uC uT uI uM) ++ (wX5 cI cZ cJ g0 g7 g8 g9 g10 g11 g12 G9 G10 G11 G12 uG ++ [(q18, .inl (cI, 8, .inl (fun _ => (0 : Int32))))])) H := hP
                              have hD : va_D A ((wN cI cZ n0 h0 h3 h4 h5 h6 c0 c8 c9 c10 c11 c12 c13 t0 t8 t9 t10 t11 t12 t13 i0 i1 i2 i3 i4 m0 m1 m2 uH uC uT uI uM) ++ (wX5 cI cZ cJ g0 g7 g8 g9 g10 g11 g12 G9 G10 G11 G12 uG ++ [(q18, .inl (cI, 8, .inl (fun _ => (0 : Int32))))])) := hD
                              refine lv_astore_n (lv' := [(3, .ref q18), (2, .int (nI uG.2.2.2.2.2.2.2.2.2.1.1)), (0, .ref g0), (1, .ref n0)]) hx hb dX5_isSame_166 rfl hl (by decide) rfl (fun ls hl => ?_)
                              refine lv_iconst (v := (0 : Int32)) hx hb dX5_isSame_167 (by decide) ?_
                              refine lv_istore (lv' := [(4, .int (0 : Int32)), (3, .ref q18), (2, .int (nI uG.2.2.2.2.2.2.2.2.2.1.1)), (0, .ref g0), (1, .ref n0)]) hx hb dX5_isSame_168 hl (by decide) rfl (fun ls hl => ?_)
                              refine W.widen (k := 1) (n := 8) (Nat.le_of_ble_eq_true rfl) (Nat.le_of_ble_eq_true rfl) ?_
                              exact L170 200 g7 g8 g9 g10 g11 g12 G9 G10 G11 G12 q18 (fun _ => (0 : Int32)) (nI uG.2.2.2.2.2.2.2.2.2.1.1) (0 : Int32) _ _ hP hD hS _ (lv_sub hl [3, 4, 2, 1, 0] rfl) hok
                            · have hok := iq hok hc
                              refine lv_iconst (v := (0 : Int32)) hx hb dX5_isSame_160 (by decide) ?_
                              have hok := Option.some.inj hok
                              subst hok
                              exact eAz S hr hlk (by decide) rfl (g7, g8, g9, g10, g11, g12, G9, G10, G11, G12) (nx_P hP) (nx_D hD) hS (Nat.le_of_ble_eq_true rfl) (Nat.le_of_ble_eq_true rfl) dX5_isSame_161
