-- X0_setTo
def m_X0_setTo (k : Nat) (b1 : Nat) (σ : zw_S) : Option zw_S :=
  nm (zw_wr σ k 0 (σ b1 0)) fun s1 =>
  nm (zw_wr s1 k 1 (s1 b1 1)) fun s2 =>
  nm (zw_wr s2 k 2 (s2 b1 2)) fun s3 =>
  nm (zw_wr s3 k 3 (s3 b1 3)) fun s4 =>
  tt (zcp 8 8 0 0 8) <|
  nm (zw_us s4 (k + 1) (va_cpy (s4 (b1 + 1)) (s4 (k + 1)) (0 : Int32).toNatClampNeg (0 : Int32).toNatClampNeg (8 : Int32).toNatClampNeg)) fun s5 =>
  tt (zcp 8 8 0 0 8) <|
  nm (zw_us s5 (k + 2) (va_cpy (s5 (b1 + 2)) (s5 (k + 2)) (0 : Int32).toNatClampNeg (0 : Int32).toNatClampNeg (8 : Int32).toNatClampNeg)) fun s7 =>
  tt (zcp 20 20 0 0 20) <|
  nm (zw_us s7 (k + 3) (va_cpy (s7 (b1 + 3)) (s7 (k + 3)) (0 : Int32).toNatClampNeg (0 : Int32).toNatClampNeg (20 : Int32).toNatClampNeg)) fun s9 =>
  tt (zcp 20 20 0 0 20) <|
  nm (zw_us s9 (k + 4) (va_cpy (s9 (b1 + 4)) (s9 (k + 4)) (0 : Int32).toNatClampNeg (0 : Int32).toNatClampNeg (20 : Int32).toNatClampNeg)) fun s11 =>
  tt (zcp 20 20 0 0 20) <|
  nm (zw_us s11 (k + 5) (va_cpy (s11 (b1 + 5)) (s11 (k + 5)) (0 : Int32).toNatClampNeg (0 : Int32).toNatClampNeg (20 : Int32).toNatClampNeg)) fun s13 =>
  tt (zcp 20 20 0 0 20) <|
  nm (zw_us s13 (k + 6) (va_cpy (s13 (b1 + 6)) (s13 (k + 6)) (0 : Int32).toNatClampNeg (0 : Int32).toNatClampNeg (20 : Int32).toNatClampNeg)) fun s15 =>
  tt (zcp 8 8 0 0 8) <|
  nm (zw_us s15 (k + 7) (va_cpy (s15 (b1 + 7)) (s15 (k + 7)) (0 : Int32).toNatClampNeg (0 : Int32).toNatClampNeg (8 : Int32).toNatClampNeg)) fun s17 =>
  tt (zcp 8 8 0 0 8) <|
  nm (zw_us s17 (k + 8) (va_cpy (s17 (b1 + 8)) (s17 (k + 8)) (0 : Int32).toNatClampNeg (0 : Int32).toNatClampNeg (8 : Int32).toNatClampNeg)) fun s19 =>
  tt (zcp 8 8 0 0 8) <|
  nm (zw_us s19 (k + 9) (va_cpy (s19 (b1 + 9)) (s19 (k + 9)) (0 : Int32).toNatClampNeg (0 : Int32).toNatClampNeg (8 : Int32).toNatClampNeg)) fun s21 =>
  tt (zcp 8 8 0 0 8) <|
  nm (zw_us s21 (k + 10) (va_cpy (s21 (b1 + 10)) (s21 (k + 10)) (0 : Int32).toNatClampNeg (0 : Int32).toNatClampNeg (8 : Int32).toNatClampNeg)) fun s23 =>
  tt (zcp 10 10 0 0 10) <|
  nm (zw_us s23 (k + 11) (va_cpy (s23 (b1 + 11)) (s23 (k + 11)) (0 : Int32).toNatClampNeg (0 : Int32).toNatClampNeg (10 : Int32).toNatClampNeg)) fun s25 =>
  some s25
-- X0_draw
def m_X0_draw (k : Nat) (σ : zw_S) : Option (Int32 × zw_S) :=
  nm (zw_wr σ k 1 (((σ k 1) * 1103515245) + 12345)) fun s1 =>
  some (zush (s1 k 1) 8, s1)
-- X0_hasTask
def m_X0_hasTask (k : Nat) (σ : zw_S) (x1 : Int32) : Option (Int32 × zw_S) :=
  if x1 < 0 then
    some (0, σ)
  else
    if σ k 2 ≤ x1 then
      some (0, σ)
    else
      some (1, σ)
-- X0_hasPerson
def m_X0_hasPerson (k : Nat) (σ : zw_S) (x1 : Int32) : Option (Int32 × zw_S) :=
  if x1 < 0 then
    some (0, σ)
  else
    if σ k 3 ≤ x1 then
      some (0, σ)
    else
      some (1, σ)
-- X0_addTask
def m_X0_addTask (k : Nat) (σ : zw_S) (x1 : Int32) (x2 : Int32) (x3 : Int32) (x4 : Int32) : Option (Int32 × zw_S) :=
  if σ k 2 < 20 then
    wt σ (k + 3) 20 (σ k 2) x1 fun s2 =>
    wt s2 (k + 4) 20 (s2 k 2) x2 fun s3 =>
    wt s3 (k + 5) 20 (s3 k 2) x3 fun s4 =>
    wt s4 (k + 6) 20 (s4 k 2) x4 fun s5 =>
    nm (s5 k 2) fun v6 =>
    nm (zw_wr s5 k 2 (v6 + 1)) fun s7 =>
    some (v6, s7)
  else
    some ((-1), σ)
-- X0_addPerson
def m_X0_addPerson (k : Nat) (σ : zw_S) (x1 : Int32) (x2 : Int32) (x3 : Int32) : Option (Int32 × zw_S) :=
  if σ k 3 < 8 then
    wt σ (k + 9) 8 (σ k 3) x1 fun s2 =>
    wt s2 (k + 8) 8 (s2 k 3) x2 fun s3 =>
    wt s3 (k + 7) 8 (s3 k 3) x3 fun s4 =>
    wt s4 (k + 10) 8 (s4 k 3) (-1) fun s5 =>
    nm (s5 k 3) fun v6 =>
    nm (zw_wr s5 k 3 (v6 + 1)) fun s7 =>
    some (v6, s7)
  else
    some ((-1), σ)
-- X0_isEnded
def m_X0_isEnded (k : Nat) (σ : zw_S) (x1 : Int32) : Option (Int32 × zw_S) :=
  rd σ (k + 5) 20 x1 fun v1 =>
  if v1 = 0 then
    some (1, σ)
  else
    some (0, σ)
-- X0_endedTasks
def m_X0_endedTasks_4 (k : Nat) : Nat → zw_S → Int32 → Int32 → Option (Int32 × zw_S)
  | 0, _, _, _ => none
  | n + 1, σ, x1, x2 =>
    if σ k 2 ≤ x2 then
      some (x1, σ)
    else
      rd σ (k + 5) 20 x2 fun v2 =>
      if v2 = 0 then
        nm (x1 + 1) fun v5 =>
        nm (x2 + 1) fun v6 =>
        m_X0_endedTasks_4 k n σ v5 v6
      else
        nm (x2 + 1) fun v4 =>
        m_X0_endedTasks_4 k n σ x1 v4
def m_X0_endedTasks (k : Nat) (σ : zw_S) : Option (Int32 × zw_S) :=
  m_X0_endedTasks_4 k 200 σ 0 0
-- X0_hoursOfAll
def m_X0_hoursOfAll_4 (k : Nat) : Nat → zw_S → Int32 → Int32 → Option (Int32 × zw_S)
  | 0, _, _, _ => none
  | n + 1, σ, x1, x2 =>
    if σ k 2 ≤ x2 then
      some (x1, σ)
    else
      rd σ (k + 5) 20 x2 fun v2 =>
      nm (x1 + v2) fun v3 =>
      nm (x2 + 1) fun v4 =>
      m_X0_hoursOfAll_4 k n σ v3 v4
def m_X0_hoursOfAll (k : Nat) (σ : zw_S) : Option (Int32 × zw_S) :=
  m_X0_hoursOfAll_4 k 200 σ 0 0
-- X2_growthOf
def m_X2_growthOf (σ : zw_S) (x0 : Int32) (x1 : Int32) (x2 : Int32) : Option (Int32 × zw_S) :=
  if x0 = 2 then
    some (x1 / 10, σ)
  else
    if x0 = 3 then
      some ((x1 / 10) + 1, σ)
    else
      if x0 = 4 then
        some (0, σ)
      else
        if x0 = 5 then
          some (0, σ)
        else
          if x0 = 6 then
            if x2 - x2 / 2 * 2 = 0 then
              some (1, σ)
            else
              some (0, σ)
          else
            some (0, σ)
-- X0_growthOf
def m_X0_growthOf (k : Nat) (σ : zw_S) (x1 : Int32) : Option (Int32 × zw_S) :=
  cl (m_X0_isEnded k σ x1) fun r2 s1 =>
  if r2 = 0 then
    rd s1 (k + 3) 20 x1 fun v4 =>
    rd s1 (k + 5) 20 x1 fun v5 =>
    cl (m_X2_growthOf s1 v4 v5 (s1 k 0)) fun r7 s6 =>
    some (r7, s6)
  else
    some (0, s1)
-- X0_bearerOf
def m_X0_bearerOf_2 (k : Nat) : Nat → zw_S → Int32 → Int32 → Option (Int32 × zw_S)
  | 0, _, _, _ => none
  | n + 1, σ, x1, x2 =>
    if σ k 3 ≤ x2 then
      some ((-1), σ)
    else
      rd σ (k + 7) 8 x2 fun v2 =>
      if v2 = x1 then
        some (x2, σ)
      else
        nm (x2 + 1) fun v4 =>
        m_X0_bearerOf_2 k n σ x1 v4
def m_X0_bearerOf (k : Nat) (σ : zw_S) (x1 : Int32) : Option (Int32 × zw_S) :=
  m_X0_bearerOf_2 k 200 σ x1 0
-- X2_workOf
def m_X2_workOf_13 (σ : zw_S) (x0 : Int32) (x1 : Int32) (y0 : Int32) : Option (Int32 × zw_S) :=
  if x0 = 1 then
    some (y0, σ)
  else
    if x0 = 2 then
      some (x1, σ)
    else
      if x0 = 3 then
        some (x1, σ)
      else
        if x0 = 4 then
          some (2 * x1, σ)
        else
          if x0 = 5 then
            some ((2 * x1) + 1, σ)
          else
            if x0 = 6 then
              if y0 ≤ 0 then
                some (0, σ)
              else
                some (y0 - 1, σ)
            else
              some (x1, σ)
def m_X2_workOf (σ : zw_S) (x0 : Int32) (x1 : Int32) (x2 : Int32) : Option (Int32 × zw_S) :=
  if x2 - x2 / 2 * 2 = 0 then
    m_X2_workOf_13 σ x0 x1 x1
  else
    m_X2_workOf_13 σ x0 x1 (x1 / 2)
-- X0_workOf
def m_X0_workOf_36 (k : Nat) (σ : zw_S) (x1 : Int32) (x2 : Int32) : Option (Int32 × zw_S) :=
  rd σ (k + 3) 20 x1 fun v1 =>
  cl (m_X2_workOf σ v1 x2 (σ k 0)) fun r3 s2 =>
  some (r3, s2)
def m_X0_workOf (k : Nat) (σ : zw_S) (x1 : Int32) (x2 : Int32) : Option (Int32 × zw_S) :=
  rd σ (k + 6) 20 x1 fun v1 =>
  rd σ (k + 3) 20 x1 fun v2 =>
  if v2 = 3 then
    if v1 < 0 then
      m_X0_workOf_36 k σ x1 x2
    else
      rd σ (k + 4) 20 v1 fun v5 =>
      cl (m_X0_bearerOf k σ v5) fun r7 s6 =>
      if 0 ≤ r7 then
        m_X0_workOf_36 k s6 x1 x2
      else
        some (0, s6)
  else
    m_X0_workOf_36 k σ x1 x2
-- X0_isWaiting
def m_X0_isWaiting_43 (k : Nat) (σ : zw_S) (x2 : Int32) : Option (Int32 × zw_S) :=
  rd σ (k + 5) 20 x2 fun v1 =>
  if v1 ≤ 0 then
    some (0, σ)
  else
    some (1, σ)
def m_X0_isWaiting_5 (k : Nat) : Nat → zw_S → Int32 → Int32 → Int32 → Option (Int32 × zw_S)
  | 0, _, _, _, _ => none
  | n + 1, σ, x2, x3, x4 =>
    if σ k 2 ≤ x4 then
      some (0, σ)
    else
      cl (m_X0_hasTask k σ x3) fun r3 s2 =>
      if r3 = 0 then
        some (0, s2)
      else
        rd s2 (k + 5) 20 x3 fun v5 =>
        if v5 ≤ 0 then
          some (0, s2)
        else
          rd s2 (k + 6) 20 x3 fun v7 =>
          if v7 = x2 then
            m_X0_isWaiting_43 k s2 x2
          else
            nm (x4 + 1) fun v9 =>
            m_X0_isWaiting_5 k n s2 x2 v7 v9
def m_X0_isWaiting (k : Nat) (σ : zw_S) (x1 : Int32) (x2 : Int32) : Option (Int32 × zw_S) :=
  m_X0_isWaiting_5 k 200 σ x2 x1 0
-- X0_openNames
def m_X0_openNames_4 (k : Nat) : Nat → zw_S → Int32 → Int32 → Option (Int32 × zw_S)
  | 0, _, _, _ => none
  | n + 1, σ, x1, x2 =>
    if σ k 2 ≤ x2 then
      some (x1, σ)
    else
      rd σ (k + 5) 20 x2 fun v2 =>
      if v2 ≤ 0 then
        nm (x2 + 1) fun v4 =>
        m_X0_openNames_4 k n σ x1 v4
      else
        rd σ (k + 4) 20 x2 fun v5 =>
        nm (x1 ||| (1 <<< (v5 &&& 31))) fun v6 =>
        nm (x2 + 1) fun v7 =>
        m_X0_openNames_4 k n σ v6 v7
def m_X0_openNames (k : Nat) (σ : zw_S) : Option (Int32 × zw_S) :=
  m_X0_openNames_4 k 200 σ 0 0
-- X0_isOpen
def m_X0_isOpen (k : Nat) (σ : zw_S) (x1 : Int32) : Option (Int32 × zw_S) :=
  cl (m_X0_openNames k σ) fun r2 s1 =>
  if (zush r2 x1) &&& 1 = 1 then
    some (1, s1)
  else
    some (0, s1)
-- X0_freeNames
def m_X0_freeNames_7 (k : Nat) : Nat → zw_S → Int32 → Int32 → Option (Int32 × zw_S)
  | 0, _, _, _ => none
  | n + 1, σ, x1, x2 =>
    if σ k 3 ≤ x2 then
      some (x1, σ)
    else
      rd σ (k + 7) 8 x2 fun v2 =>
      if v2 < 0 then
        nm (x2 + 1) fun v4 =>
        m_X0_freeNames_7 k n σ x1 v4
      else
        rd σ (k + 7) 8 x2 fun v5 =>
        nm (x1 &&& ((1 <<< (v5 &&& 31)) ^^^ (-1))) fun v6 =>
        nm (x2 + 1) fun v7 =>
        m_X0_freeNames_7 k n σ v6 v7
def m_X0_freeNames (k : Nat) (σ : zw_S) : Option (Int32 × zw_S) :=
  cl (m_X0_openNames k σ) fun r2 s1 =>
  m_X0_freeNames_7 k 200 s1 r2 0
-- X0_mayTake
def m_X0_mayTake (k : Nat) (σ : zw_S) (x1 : Int32) (x2 : Int32) : Option (Int32 × zw_S) :=
  if x2 = (-1) then
    some (1, σ)
  else
    cl (m_X0_bearerOf k σ x2) fun r3 s2 =>
    rd s2 (k + 8) 8 x1 fun v4 =>
    if 40 ≤ v4 then
      some (0, s2)
    else
      if r3 < 0 then
        some (1, s2)
      else
        if r3 = x1 then
          some (1, s2)
        else
          some (0, s2)
-- X0_tasksOf
def m_X0_tasksOf_4 (k : Nat) : Nat → zw_S → Int32 → Int32 → Int32 → Option (Int32 × zw_S)
  | 0, _, _, _, _ => none
  | n + 1, σ, x1, x2, x3 =>
    if σ k 2 ≤ x3 then
      some (x2, σ)
    else
      rd σ (k + 4) 20 x3 fun v2 =>
      if v2 = x1 then
        nm (x2 + 1) fun v5 =>
        nm (x3 + 1) fun v6 =>
        m_X0_tasksOf_4 k n σ x1 v5 v6
      else
        nm (x3 + 1) fun v4 =>
        m_X0_tasksOf_4 k n σ x1 x2 v4
def m_X0_tasksOf (k : Nat) (σ : zw_S) (x1 : Int32) : Option (Int32 × zw_S) :=
  m_X0_tasksOf_4 k 200 σ x1 0 0
-- X0_hoursOf
def m_X0_hoursOf_4 (k : Nat) : Nat → zw_S → Int32 → Int32 → Int32 → Option (Int32 × zw_S)
  | 0, _, _, _, _ => none
  | n + 1, σ, x1, x2, x3 =>
    if σ k 2 ≤ x3 then
      some (x2, σ)
    else
      rd σ (k + 4) 20 x3 fun v2 =>
      if v2 = x1 then
        rd σ (k + 5) 20 x3 fun v5 =>
        nm (x2 + v5) fun v6 =>
        nm (x3 + 1) fun v7 =>
        m_X0_hoursOf_4 k n σ x1 v6 v7
      else
        nm (x3 + 1) fun v4 =>
        m_X0_hoursOf_4 k n σ x1 x2 v4
def m_X0_hoursOf (k : Nat) (σ : zw_S) (x1 : Int32) : Option (Int32 × zw_S) :=
  m_X0_hoursOf_4 k 200 σ x1 0 0
-- X2_isUnder
def m_X2_isUnder_4 : Nat → zw_S → Int32 → Int32 → Int32 → Option (Int32 × zw_S)
  | 0, _, _, _, _ => none
  | n + 1, σ, x1, x2, x3 =>
    if 7 ≤ x3 then
      some (0, σ)
    else
      if x2 < 0 then
        some (0, σ)
      else
        if 7 ≤ x2 then
          some (0, σ)
        else
          if x2 = x1 then
            some (1, σ)
          else
            tt (zi x2 7) <|
            nm (zabv x2) fun v5 =>
            nm (x3 + 1) fun v7 =>
            m_X2_isUnder_4 n σ x1 v5 v7
def m_X2_isUnder (σ : zw_S) (x0 : Int32) (x1 : Int32) : Option (Int32 × zw_S) :=
  m_X2_isUnder_4 200 σ x1 x0 0
-- X0_mostWorkOf
def m_X0_mostWorkOf_42 (k : Nat) (σ : zw_S) (x2 : Int32) : Option (Int32 × zw_S) :=
  cl (m_X2_workOf σ 5 x2 (σ k 0)) fun r2 s1 =>
  some (r2, s1)
def m_X0_mostWorkOf_2 (k : Nat) : Nat → zw_S → Int32 → Int32 → Int32 → Option (Int32 × zw_S)
  | 0, _, _, _, _ => none
  | n + 1, σ, x1, x2, x3 =>
    if σ k 2 ≤ x3 then
      some (x2, σ)
    else
      rd σ (k + 4) 20 x3 fun v2 =>
      if v2 = x1 then
        rd σ (k + 5) 20 x3 fun v5 =>
        if v5 ≤ 0 then
          nm (x3 + 1) fun v7 =>
          m_X0_mostWorkOf_2 k n σ x1 x2 v7
        else
          rd σ (k + 3) 20 x3 fun v8 =>
          cl (m_X2_isUnder σ v8 4) fun r10 s9 =>
          if r10 = 0 then
            nm (x3 + 1) fun v12 =>
            m_X0_mostWorkOf_2 k n s9 x1 x2 v12
          else
            m_X0_mostWorkOf_42 k s9 x2
      else
        nm (x3 + 1) fun v4 =>
        m_X0_mostWorkOf_2 k n σ x1 x2 v4
def m_X0_mostWorkOf (k : Nat) (σ : zw_S) (x1 : Int32) (x2 : Int32) : Option (Int32 × zw_S) :=
  m_X0_mostWorkOf_2 k 200 σ x1 x2 0
-- X0_mostWork
def m_X0_mostWork_50 (k : Nat) : Nat → zw_S → Int32 → Int32 → Int32 → Int32 → Int32 → Option (Int32 × zw_S)
  | 0, _, _, _, _, _, _ => none
  | n + 1, σ, x1, x2, x4, x5, x6 =>
    if σ k 3 ≤ x6 then
      some (x5, σ)
    else
      rd σ (k + 10) 8 x6 fun v2 =>
      if v2 = x1 then
        rd σ (k + 8) 8 x1 fun v5 =>
        rd σ (k + 9) 8 x6 fun v6 =>
        cl (m_X0_mostWorkOf k σ x2 (v6 / 2)) fun r8 s7 =>
        nm (x5 + ((x4 - v5) * r8)) fun v9 =>
        nm (x6 + 1) fun v10 =>
        m_X0_mostWork_50 k n s7 x1 x2 x4 v9 v10
      else
        nm (x6 + 1) fun v4 =>
        m_X0_mostWork_50 k n σ x1 x2 x4 x5 v4
def m_X0_mostWork (k : Nat) (σ : zw_S) (x1 : Int32) (x2 : Int32) (x3 : Int32) : Option (Int32 × zw_S) :=
  rd σ (k + 8) 8 x1 fun v1 =>
  nm (zmin (v1 + x3) 40) fun v2 =>
  rd σ (k + 8) 8 x1 fun v3 =>
  rd σ (k + 9) 8 x1 fun v4 =>
  cl (m_X0_mostWorkOf k σ x2 v4) fun r6 s5 =>
  nm ((zmax 0 (v2 - (zmax v3 7))) * r6) fun v7 =>
  m_X0_mostWork_50 k 200 s5 x1 x2 v2 v7 0
-- X0_isAtHand
def m_X0_isAtHand (k : Nat) (σ : zw_S) (x1 : Int32) : Option (Int32 × zw_S) :=
  rd σ (k + 5) 20 x1 fun v1 =>
  if v1 ≤ 0 then
    some (0, σ)
  else
    rd σ (k + 6) 20 x1 fun v3 =>
    if v3 < 0 then
      some (1, σ)
    else
      rd σ (k + 6) 20 x1 fun v5 =>
      rd σ (k + 5) 20 v5 fun v6 =>
      if v6 = 0 then
        some (1, σ)
      else
        some (0, σ)
-- X0_handOf
def m_X0_handOf_2 (k : Nat) : Nat → zw_S → Int32 → Int32 → Option (Int32 × zw_S)
  | 0, _, _, _ => none
  | n + 1, σ, x1, x2 =>
    if σ k 2 ≤ x2 then
      some ((-1), σ)
    else
      rd σ (k + 4) 20 x2 fun v2 =>
      if v2 = x1 then
        cl (m_X0_isAtHand k σ x2) fun r6 s5 =>
        if r6 = 0 then
          nm (x2 + 1) fun v8 =>
          m_X0_handOf_2 k n s5 x1 v8
        else
          some (x2, s5)
      else
        nm (x2 + 1) fun v4 =>
        m_X0_handOf_2 k n σ x1 v4
def m_X0_handOf (k : Nat) (σ : zw_S) (x1 : Int32) : Option (Int32 × zw_S) :=
  m_X0_handOf_2 k 200 σ x1 0
-- J7_fill_53178
def m_J7_fill_53178_5 (b0 : Nat) (nb0 : Nat) : Nat → zw_S → Int32 → Int32 → Int32 → Option zw_S
  | 0, _, _, _, _ => none
  | n + 1, σ, x1, x2, x3 =>
    if x3 ≤ x2 then
      some σ
    else
      wt σ b0 nb0 x2 x1 fun s2 =>
      nm (x2 + 1) fun v3 =>
      m_J7_fill_53178_5 b0 nb0 n s2 x1 v3 x3
def m_J7_fill_53178 (b0 : Nat) (nb0 : Nat) (σ : zw_S) (x1 : Int32) : Option zw_S :=
  nm (Int32.ofNat nb0) fun v1 =>
  m_J7_fill_53178_5 b0 nb0 200 σ x1 0 v1
-- X0_findHands
def m_X0_findHands_12 (k : Nat) (b1 : Nat) (nb1 : Nat) : Nat → zw_S → Int32 → Option zw_S
  | 0, _, _ => none
  | n + 1, σ, x2 =>
    if x2 < 0 then
      some σ
    else
      cl (m_X0_isAtHand k σ x2) fun r3 s2 =>
      if r3 = 0 then
        nm (x2 + (-1)) fun v5 =>
        m_X0_findHands_12 k b1 nb1 n s2 v5
      else
        rd s2 (k + 4) 20 x2 fun v6 =>
        wt s2 b1 nb1 v6 x2 fun s7 =>
        nm (x2 + (-1)) fun v8 =>
        m_X0_findHands_12 k b1 nb1 n s7 v8
def m_X0_findHands (k : Nat) (b1 : Nat) (nb1 : Nat) (σ : zw_S) : Option zw_S :=
  cv (m_J7_fill_53178 b1 nb1 σ (-1)) fun s1 =>
  nm ((s1 k 2) - 1) fun v2 =>
  m_X0_findHands_12 k b1 nb1 200 s1 v2
-- X0_worthOf
def m_X0_worthOf_4 (k : Nat) : Nat → zw_S → Int32 → Int32 → Int32 → Option (Int32 × zw_S)
  | 0, _, _, _, _ => none
  | n + 1, σ, x1, x2, x3 =>
    if 8 ≤ x3 then
      some (x2, σ)
    else
      if (zush x1 x3) &&& 1 = 1 then
        rd σ (k + 1) 8 x3 fun v4 =>
        nm (x2 + v4) fun v5 =>
        nm (x3 + 1) fun v6 =>
        m_X0_worthOf_4 k n σ x1 v5 v6
      else
        nm (x3 + 1) fun v3 =>
        m_X0_worthOf_4 k n σ x1 x2 v3
def m_X0_worthOf (k : Nat) (σ : zw_S) (x1 : Int32) : Option (Int32 × zw_S) :=
  m_X0_worthOf_4 k 200 σ x1 0 0
-- X0_endedWorth
def m_X0_endedWorth_29 (k : Nat) (σ : zw_S) (x1 : Int32) : Option (Int32 × zw_S) :=
  cl (m_X0_openNames k σ) fun r2 s1 =>
  cl (m_X0_worthOf k s1 (x1 &&& (r2 ^^^ (-1)))) fun r4 s3 =>
  some (r4, s3)
def m_X0_endedWorth_4 (k : Nat) : Nat → zw_S → Int32 → Int32 → Option (Int32 × zw_S)
  | 0, _, _, _ => none
  | n + 1, σ, x1, x2 =>
    if σ k 2 ≤ x2 then
      m_X0_endedWorth_29 k σ x1
    else
      rd σ (k + 4) 20 x2 fun v2 =>
      nm (x1 ||| (1 <<< (v2 &&& 31))) fun v3 =>
      nm (x2 + 1) fun v4 =>
      m_X0_endedWorth_4 k n σ v3 v4
def m_X0_endedWorth (k : Nat) (σ : zw_S) : Option (Int32 × zw_S) :=
  m_X0_endedWorth_4 k 200 σ 0 0
-- X0_goneOfAll
def m_X0_goneOfAll_4 (k : Nat) : Nat → zw_S → Int32 → Int32 → Option (Int32 × zw_S)
  | 0, _, _, _ => none
  | n + 1, σ, x1, x2 =>
    if 8 ≤ x2 then
      some (x1, σ)
    else
      rd σ (k + 2) 8 x2 fun v2 =>
      nm (x1 + v2) fun v3 =>
      nm (x2 + 1) fun v4 =>
      m_X0_goneOfAll_4 k n σ v3 v4
def m_X0_goneOfAll (k : Nat) (σ : zw_S) : Option (Int32 × zw_S) :=
  m_X0_goneOfAll_4 k 200 σ 0 0
-- X1_gather
def m_X1_gather_7 (b1 : Nat) : Nat → zw_S → Int32 → Option (Int32 × zw_S)
  | 0, _, _ => none
  | n + 1, σ, x2 =>
    if σ b1 3 ≤ x2 then
      some (1, σ)
    else
      rd σ (b1 + 7) 8 x2 fun v2 =>
      if 0 ≤ v2 then
        nm (x2 + 1) fun v4 =>
        m_X1_gather_7 b1 n σ v4
      else
        rd σ (b1 + 8) 8 x2 fun v5 =>
        if v5 < 40 then
          if σ 39 7 < 4 then
            nm (σ 39 7) fun v8 =>
            nm (zw_wr σ 39 7 (v8 + 1)) fun s9 =>
            wt s9 40 4 v8 x2 fun s10 =>
            nm (x2 + 1) fun v11 =>
            m_X1_gather_7 b1 n s10 v11
          else
            some (0, σ)
        else
          nm (x2 + 1) fun v12 =>
          m_X1_gather_7 b1 n σ v12
def m_X1_gather (b1 : Nat) (σ : zw_S) : Option (Int32 × zw_S) :=
  nm (zw_wr σ 39 7 0) fun s1 =>
  m_X1_gather_7 b1 200 s1 0
-- X1_gainOf
def m_X1_gainOf (b0 : Nat) (σ : zw_S) (x1 : Int32) (x2 : Int32) (x3 : Int32) : Option (Int32 × zw_S) :=
  cl (m_X0_hoursOf b0 σ x2) fun r2 s1 =>
  cl (m_X0_mostWork b0 s1 x1 x2 x3) fun r4 s3 =>
  if r2 ≤ r4 then
    rd s3 (b0 + 1) 8 x2 fun v6 =>
    some (v6, s3)
  else
    some (0, s3)
-- X1_findGains
def m_X1_findGains_101 (b1 : Nat) (R23 : zw_S → Int32 → Int32 → Int32 → Option zw_S) (σ : zw_S) (x2 : Int32) (x3 : Int32) (x4 : Int32) (x5 : Int32) : Option zw_S :=
  rd σ 44 5 (x4 + 1) fun v1 =>
  wt σ 44 5 x4 (v1 + x5) fun s2 =>
  nm (x4 + (-1)) fun v3 =>
  R23 s2 x2 x3 v3
def m_X1_findGains_69 (b1 : Nat) (R23 : zw_S → Int32 → Int32 → Int32 → Option zw_S) (R34 : zw_S → Int32 → Int32 → Int32 → Int32 → Int32 → Option zw_S) (σ : zw_S) (x2 : Int32) (x3 : Int32) (x4 : Int32) (x5 : Int32) (x6 : Int32) (y0 : Int32) : Option zw_S :=
  wt σ 43 32 ((x4 * 8) + x6) y0 fun s1 =>
  nm (zmax x5 y0) fun v2 =>
  nm (x6 + 1) fun v3 =>
  R34 s1 x2 x3 x4 v2 v3
def m_X1_findGains_34 (b1 : Nat) (R23 : zw_S → Int32 → Int32 → Int32 → Option zw_S) : Nat → zw_S → Int32 → Int32 → Int32 → Int32 → Int32 → Option zw_S
  | 0, _, _, _, _, _, _ => none
  | n + 1, σ, x2, x3, x4, x5, x6 =>
    if 8 ≤ x6 then
      m_X1_findGains_101 b1 R23 σ x2 x3 x4 x5
    else
      if (zush x3 x6) &&& 1 = 1 then
        rd σ 40 4 x4 fun v3 =>
        cl (m_X1_gainOf b1 σ v3 x6 x2) fun r5 s4 =>
        m_X1_findGains_69 b1 R23 (m_X1_findGains_34 b1 R23 n) s4 x2 x3 x4 x5 x6 r5
      else
        m_X1_findGains_69 b1 R23 (m_X1_findGains_34 b1 R23 n) σ x2 x3 x4 x5 x6 0
def m_X1_findGains_23 (b1 : Nat) : Nat → zw_S → Int32 → Int32 → Int32 → Option zw_S
  | 0, _, _, _, _ => none
  | n + 1, σ, x2, x3, x4 =>
    if x4 < 0 then
      some σ
    else
      m_X1_findGains_34 b1 (m_X1_findGains_23 b1 n) 200 σ x2 x3 x4 0 0
def m_X1_findGains (b1 : Nat) (σ : zw_S) (x2 : Int32) : Option zw_S :=
  cl (m_X0_freeNames b1 σ) fun r2 s1 =>
  wt s1 44 5 (s1 39 7) 0 fun s3 =>
  nm ((s3 39 7) - 1) fun v4 =>
  m_X1_findGains_23 b1 200 s3 x2 r2 v4
-- X1_begin
def m_X1_begin_21 (b1 : Nat) : Nat → zw_S → Int32 → Int32 → Option zw_S
  | 0, _, _, _ => none
  | n + 1, σ, x2, x3 =>
    if σ b1 3 ≤ x3 then
      some σ
    else
      rd σ (b1 + 7) 8 x3 fun v2 =>
      if v2 < 0 then
        nm (x3 + 1) fun v4 =>
        m_X1_begin_21 b1 n σ x2 v4
      else
        rd σ (b1 + 7) 8 x3 fun v5 =>
        cl (m_X0_isOpen b1 σ v5) fun r7 s6 =>
        if r7 = 0 then
          nm (x3 + 1) fun v9 =>
          m_X1_begin_21 b1 n s6 x2 v9
        else
          rd s6 (b1 + 7) 8 x3 fun v10 =>
          cl (m_X1_gainOf b1 s6 x3 v10 x2) fun r12 s11 =>
          nm (zw_wr s11 39 8 ((s6 39 8) + r12)) fun s13 =>
          nm (x3 + 1) fun v14 =>
          m_X1_begin_21 b1 n s13 x2 v14
def m_X1_begin (b1 : Nat) (σ : zw_S) (x2 : Int32) : Option zw_S :=
  nm (zw_wr σ 39 9 (-1)) fun s1 =>
  cv (m_X1_findGains b1 s1 x2) fun s2 =>
  cl (m_X0_endedWorth b1 s2) fun r4 s3 =>
  nm (zw_wr s3 39 8 r4) fun s5 =>
  m_X1_begin_21 b1 200 s5 x2 0
-- X5_workOn
def m_X5_workOn (b1 : Nat) (σ : zw_S) (x2 : Int32) (x3 : Int32) : Option zw_S :=
  if 0 ≤ x2 then
    rd σ (b1 + 5) 20 x2 fun v2 =>
    cl (m_X0_workOf b1 σ x2 x3) fun r4 s3 =>
    wt s3 (b1 + 5) 20 x2 (zmax 0 (v2 - r4)) fun s5 =>
    rd s5 (b1 + 5) 20 x2 fun v6 =>
    if v6 = 0 then
      cv (m_X0_findHands b1 38 8 s5) fun s8 =>
      some s8
    else
      some s5
  else
    some σ
-- X5_bearersWork
def m_X5_bearersWork_2 (b1 : Nat) : Nat → zw_S → Int32 → Option zw_S
  | 0, _, _ => none
  | n + 1, σ, x2 =>
    if σ b1 3 ≤ x2 then
      some σ
    else
      rd σ (b1 + 7) 8 x2 fun v2 =>
      if v2 < 0 then
        nm (x2 + 1) fun v4 =>
        m_X5_bearersWork_2 b1 n σ v4
      else
        rd σ (b1 + 8) 8 x2 fun v5 =>
        if v5 < 7 then
          nm (x2 + 1) fun v7 =>
          m_X5_bearersWork_2 b1 n σ v7
        else
          rd σ (b1 + 7) 8 x2 fun v8 =>
          rd σ 38 8 v8 fun v9 =>
          rd σ (b1 + 9) 8 x2 fun v10 =>
          cv (m_X5_workOn b1 σ v9 v10) fun s11 =>
          nm (x2 + 1) fun v12 =>
          m_X5_bearersWork_2 b1 n s11 v12
def m_X5_bearersWork (b1 : Nat) (σ : zw_S) : Option zw_S :=
  m_X5_bearersWork_2 b1 200 σ 0
-- X5_helpersWork
def m_X5_helpersWork_67 (b1 : Nat) (R2 : zw_S → Int32 → Option zw_S) (σ : zw_S) (x2 : Int32) (x3 : Int32) : Option zw_S :=
  rd σ (b1 + 7) 8 x3 fun v1 =>
  rd σ 38 8 v1 fun v2 =>
  rd σ (b1 + 9) 8 x2 fun v3 =>
  cv (m_X5_workOn b1 σ v2 (v3 / 2)) fun s4 =>
  nm (x2 + 1) fun v5 =>
  R2 s4 v5
def m_X5_helpersWork_2 (b1 : Nat) : Nat → zw_S → Int32 → Option zw_S
  | 0, _, _ => none
  | n + 1, σ, x2 =>
    if σ b1 3 ≤ x2 then
      some σ
    else
      rd σ (b1 + 10) 8 x2 fun v2 =>
      if v2 < 0 then
        nm (x2 + 1) fun v4 =>
        m_X5_helpersWork_2 b1 n σ v4
      else
        rd σ (b1 + 8) 8 x2 fun v5 =>
        if v5 < 7 then
          nm (x2 + 1) fun v7 =>
          m_X5_helpersWork_2 b1 n σ v7
        else
          rd σ (b1 + 7) 8 v2 fun v8 =>
          if 0 ≤ v8 then
            rd σ (b1 + 7) 8 x2 fun v10 =>
            if v10 < 0 then
              m_X5_helpersWork_67 b1 (m_X5_helpersWork_2 b1 n) σ x2 v2
            else
              rd σ (b1 + 7) 8 x2 fun v12 =>
              rd σ 38 8 v12 fun v13 =>
              if 0 ≤ v13 then
                nm (x2 + 1) fun v15 =>
                m_X5_helpersWork_2 b1 n σ v15
              else
                m_X5_helpersWork_67 b1 (m_X5_helpersWork_2 b1 n) σ x2 v2
          else
            nm (x2 + 1) fun v16 =>
            m_X5_helpersWork_2 b1 n σ v16
def m_X5_helpersWork (b1 : Nat) (σ : zw_S) : Option zw_S :=
  m_X5_helpersWork_2 b1 200 σ 0
-- X5_leave
def m_X5_leave (b1 : Nat) (σ : zw_S) (x2 : Int32) : Option zw_S :=
  rd σ (b1 + 7) 8 x2 fun v1 =>
  wt σ (b1 + 7) 8 x2 (-1) fun s2 =>
  rd s2 (b1 + 2) 8 v1 fun v3 =>
  wt s2 (b1 + 2) 8 v1 (v3 + 1) fun s4 =>
  cl (m_X0_isOpen b1 s4 v1) fun r6 s5 =>
  if r6 = 0 then
    some s5
  else
    cl (m_X0_addTask b1 s5 0 v1 5 (-1)) fun r9 s8 =>
    cv (m_X0_findHands b1 38 8 s8) fun s10 =>
    some s10
-- X5_personsAge
def m_X5_personsAge_31 (b1 : Nat) (R2 : zw_S → Int32 → Option zw_S) (σ : zw_S) (x2 : Int32) : Option zw_S :=
  rd σ (b1 + 8) 8 x2 fun v1 =>
  if v1 < 40 then
    nm (x2 + 1) fun v3 =>
    R2 σ v3
  else
    rd σ (b1 + 7) 8 x2 fun v4 =>
    if v4 < 0 then
      nm (x2 + 1) fun v6 =>
      R2 σ v6
    else
      cv (m_X5_leave b1 σ x2) fun s7 =>
      nm (x2 + 1) fun v8 =>
      R2 s7 v8
def m_X5_personsAge_2 (b1 : Nat) : Nat → zw_S → Int32 → Option zw_S
  | 0, _, _ => none
  | n + 1, σ, x2 =>
    if σ b1 3 ≤ x2 then
      some σ
    else
      rd σ (b1 + 8) 8 x2 fun v2 =>
      if 40 ≤ v2 then
        m_X5_personsAge_31 b1 (m_X5_personsAge_2 b1 n) σ x2
      else
        rd σ (b1 + 8) 8 x2 fun v4 =>
        wt σ (b1 + 8) 8 x2 (v4 + 1) fun s5 =>
        m_X5_personsAge_31 b1 (m_X5_personsAge_2 b1 n) s5 x2
def m_X5_personsAge (b1 : Nat) (σ : zw_S) : Option zw_S :=
  m_X5_personsAge_2 b1 200 σ 0
-- X5_tasksGrow
def m_X5_tasksGrow_2 (b1 : Nat) : Nat → zw_S → Int32 → Option zw_S
  | 0, _, _ => none
  | n + 1, σ, x2 =>
    if σ b1 2 ≤ x2 then
      some σ
    else
      rd σ (b1 + 5) 20 x2 fun v2 =>
      if v2 ≤ 0 then
        nm (x2 + 1) fun v4 =>
        m_X5_tasksGrow_2 b1 n σ v4
      else
        rd σ (b1 + 3) 20 x2 fun v5 =>
        if v5 = 0 then
          nm (x2 + 1) fun v7 =>
          m_X5_tasksGrow_2 b1 n σ v7
        else
          rd σ (b1 + 5) 20 x2 fun v8 =>
          cl (m_X0_growthOf b1 σ x2) fun r10 s9 =>
          wt s9 (b1 + 5) 20 x2 (zmin 999 (v8 + r10)) fun s11 =>
          nm (x2 + 1) fun v12 =>
          m_X5_tasksGrow_2 b1 n s11 v12
def m_X5_tasksGrow (b1 : Nat) (σ : zw_S) : Option zw_S :=
  m_X5_tasksGrow_2 b1 200 σ 0
-- X5_go
def m_X5_go_10 (b1 : Nat) : Nat → zw_S → Int32 → Int32 → Option zw_S
  | 0, _, _, _ => none
  | n + 1, σ, x2, x3 =>
    if x2 ≤ x3 then
      some σ
    else
      cv (m_X5_bearersWork b1 σ) fun s2 =>
      cv (m_X5_helpersWork b1 s2) fun s3 =>
      cv (m_X5_tasksGrow b1 s3) fun s4 =>
      cv (m_X5_personsAge b1 s4) fun s5 =>
      nm (zw_wr s5 b1 0 ((s5 b1 0) + 1)) fun s6 =>
      nm (x3 + 1) fun v7 =>
      m_X5_go_10 b1 n s6 x2 v7
def m_X5_go (b1 : Nat) (σ : zw_S) (x2 : Int32) : Option zw_S :=
  cv (m_X0_findHands b1 38 8 σ) fun s1 =>
  m_X5_go_10 b1 200 s1 x2 0
-- X1_weigh
def m_X1_weigh_44 (b1 : Nat) (σ : zw_S) (x2 : Int32) : Option zw_S :=
  cv (m_X5_go 25 σ x2) fun s1 =>
  cl (m_X0_endedWorth 25 s1) fun r3 s2 =>
  if r3 ≤ s2 39 9 then
    some s2
  else
    nm (zw_wr s2 39 9 r3) fun s5 =>
    tt (zcp 4 4 0 0 (s5 39 7)) <|
    nm (zw_us s5 42 (va_cpy (s5 41) (s5 42) (0 : Int32).toNatClampNeg (0 : Int32).toNatClampNeg (s5 39 7 : Int32).toNatClampNeg)) fun s6 =>
    some s6
def m_X1_weigh_10 (b1 : Nat) : Nat → zw_S → Int32 → Int32 → Option zw_S
  | 0, _, _, _ => none
  | n + 1, σ, x2, x3 =>
    if σ 39 7 ≤ x3 then
      m_X1_weigh_44 b1 σ x2
    else
      rd σ 40 4 x3 fun v2 =>
      rd σ 41 4 x3 fun v3 =>
      wt σ 32 8 v2 v3 fun s4 =>
      nm (x3 + 1) fun v5 =>
      m_X1_weigh_10 b1 n s4 x2 v5
def m_X1_weigh (b1 : Nat) (σ : zw_S) (x2 : Int32) : Option zw_S :=
  cv (m_X0_setTo 25 b1 σ) fun s1 =>
  m_X1_weigh_10 b1 200 s1 x2 0
-- X1_weighFrom
def m_X1_weighFrom_55 (rec : Nat → zw_S → Int32 → Int32 → Int32 → Int32 → Option zw_S) (b1 : Nat) : Nat → zw_S → Int32 → Int32 → Int32 → Int32 → Int32 → Option zw_S
  | 0, _, _, _, _, _, _ => none
  | n + 1, σ, x2, x3, x4, x5, x6 =>
    if 8 ≤ x6 then
      some σ
    else
      if (zush x4 x6) &&& 1 = 1 then
        wt σ 41 4 x3 x6 fun s4 =>
        rd s4 43 32 ((x3 * 8) + x6) fun v5 =>
        cv (rec b1 s4 x2 (x3 + 1) (x4 &&& ((1 <<< (x6 &&& 31)) ^^^ (-1))) (x5 + v5)) fun s6 =>
        nm (x6 + 1) fun v7 =>
        m_X1_weighFrom_55 rec b1 n s6 x2 x3 x4 x5 v7
      else
        nm (x6 + 1) fun v3 =>
        m_X1_weighFrom_55 rec b1 n σ x2 x3 x4 x5 v3
def mb_X1_weighFrom (rec : Nat → zw_S → Int32 → Int32 → Int32 → Int32 → Option zw_S) (b1 : Nat) (σ : zw_S) (x2 : Int32) (x3 : Int32) (x4 : Int32) (x5 : Int32) : Option zw_S :=
  rd σ 44 5 x3 fun v1 =>
  if σ 39 9 < x5 + v1 then
    if x3 < σ 39 7 then
      wt σ 41 4 x3 (-1) fun s4 =>
      cv (rec b1 s4 x2 (x3 + 1) x4 x5) fun s5 =>
      m_X1_weighFrom_55 rec b1 200 s5 x2 x3 x4 x5 0
    else
      cv (m_X1_weigh b1 σ x2) fun s6 =>
      some s6
  else
    some σ
def mf_X1_weighFrom : Nat → Nat → zw_S → Int32 → Int32 → Int32 → Int32 → Option zw_S
  | 0, _, _, _, _, _, _ => none
  | n + 1, b1, σ, x2, x3, x4, x5 => mb_X1_weighFrom (mf_X1_weighFrom n) b1 σ x2 x3 x4 x5
def m_X1_weighFrom (b1 : Nat) (σ : zw_S) (x2 : Int32) (x3 : Int32) (x4 : Int32) (x5 : Int32) : Option zw_S := mf_X1_weighFrom 6 b1 σ x2 x3 x4 x5
-- X1_carryOut
def m_X1_carryOut_4 (b1 : Nat) : Nat → zw_S → Int32 → Int32 → Option (Int32 × zw_S)
  | 0, _, _, _ => none
  | n + 1, σ, x2, x3 =>
    if σ 39 7 ≤ x3 then
      some (x2, σ)
    else
      rd σ 40 4 x3 fun v2 =>
      rd σ 42 4 x3 fun v3 =>
      wt σ (b1 + 7) 8 v2 v3 fun s4 =>
      rd s4 42 4 x3 fun v5 =>
      if v5 < 0 then
        nm (x3 + 1) fun v7 =>
        m_X1_carryOut_4 b1 n s4 x2 v7
      else
        nm (x2 + 1) fun v8 =>
        nm (x3 + 1) fun v9 =>
        m_X1_carryOut_4 b1 n s4 v8 v9
def m_X1_carryOut (b1 : Nat) (σ : zw_S) : Option (Int32 × zw_S) :=
  m_X1_carryOut_4 b1 200 σ 0 0
-- X2_isKind
def m_X2_isKind (σ : zw_S) (x0 : Int32) : Option (Int32 × zw_S) :=
  if x0 < 0 then
    some (0, σ)
  else
    if 7 ≤ x0 then
      some (0, σ)
    else
      some (1, σ)
-- X3_isMissing
def m_X3_isMissing (k : Nat) (σ : zw_S) : Option (Int32 × zw_S) :=
  if σ k 1 = 0 then
    some (1, σ)
  else
    some (0, σ)
-- X3_become
def m_X3_become (k : Nat) (σ : zw_S) (x1 : Int32) (x2 : Int32) : Option (Int32 × zw_S) :=
  nm (zw_wr σ k 1 x1) fun s1 =>
  if x1 = 0 then
    nm (zw_wr s1 k 2 0) fun s5 =>
    cv (m_J7_fill_53178 (k + 1) 40 s5 0) fun s6 =>
    some (s6 k 2, s6)
  else
    nm (zw_wr s1 k 2 x2) fun s3 =>
    cv (m_J7_fill_53178 (k + 1) 40 s3 0) fun s4 =>
    some (s4 k 2, s4)
-- X3_hasRange
def m_X3_hasRange (k : Nat) (σ : zw_S) (x1 : Int32) (x2 : Int32) : Option (Int32 × zw_S) :=
  if x1 < 0 then
    some (0, σ)
  else
    if x2 < 0 then
      some (0, σ)
    else
      if σ k 2 < x2 then
        some (0, σ)
      else
        if (σ k 2) - x2 < x1 then
          some (0, σ)
        else
          some (1, σ)
-- X3_put
def m_X3_put (k : Nat) (σ : zw_S) (x1 : Int32) (x2 : Int32) : Option zw_S :=
  if σ k 1 = 8 then
    wt σ (k + 1) 40 x1 x2.toInt8.toInt32 fun s5 =>
    some s5
  else
    if σ k 1 = 16 then
      wt σ (k + 1) 40 x1 x2.toInt16.toInt32 fun s4 =>
      some s4
    else
      wt σ (k + 1) 40 x1 x2 fun s3 =>
      some s3
-- X4_hasRoomFor
def m_X4_hasRoomFor (σ : zw_S) (x1 : Int32) : Option (Int32 × zw_S) :=
  if 120 < (σ 45 1) + x1 then
    some (0, σ)
  else
    some (1, σ)
-- X4_append
def m_X4_append_4 : Nat → zw_S → Int32 → Int32 → Option (Int32 × zw_S)
  | 0, _, _, _ => none
  | n + 1, σ, x1, x3 =>
    if x3 < 0 then
      some (σ 45 1, σ)
    else
      if 120 ≤ σ 45 1 then
        some (σ 45 1, σ)
      else
        nm (σ 45 1) fun v3 =>
        nm (zw_wr σ 45 1 (v3 + 1)) fun s4 =>
        wt s4 46 120 v3 ((zush x1 (8 * x3)) &&& 255) fun s5 =>
        nm (x3 + (-1)) fun v6 =>
        m_X4_append_4 n s5 x1 v6
def m_X4_append (σ : zw_S) (x1 : Int32) (x2 : Int32) : Option (Int32 × zw_S) :=
  nm (x2 - 1) fun v1 =>
  m_X4_append_4 200 σ x1 v1
-- X4_clear
def m_X4_clear (σ : zw_S) : Option (Int32 × zw_S) :=
  nm (σ 45 1) fun v1 =>
  nm (zw_wr σ 45 1 0) fun s2 =>
  some (v1, s2)
-- X4_isDigit
def m_X4_isDigit (σ : zw_S) (x1 : Int32) : Option (Int32 × zw_S) :=
  rd σ 46 120 x1 fun v1 =>
  if v1 < 48 then
    some (0, σ)
  else
    rd σ 46 120 x1 fun v3 =>
    if 57 < v3 then
      some (0, σ)
    else
      some (1, σ)
-- X4_isLetter
def m_X4_isLetter (σ : zw_S) (x1 : Int32) : Option (Int32 × zw_S) :=
  rd σ 46 120 x1 fun v1 =>
  if v1 < 97 then
    some (0, σ)
  else
    rd σ 46 120 x1 fun v3 =>
    if 122 < v3 then
      some (0, σ)
    else
      some (1, σ)
-- X4_readNumber
def m_X4_readNumber_5 : Nat → zw_S → Option zw_S
  | 0, _ => none
  | n + 1, σ =>
    if σ 45 1 ≤ σ 45 4 then
      some σ
    else
      cl (m_X4_isDigit σ (σ 45 4)) fun r3 s2 =>
      if r3 = 0 then
        some s2
      else
        rd s2 46 120 (s2 45 4) fun v5 =>
        nm (zw_wr s2 45 5 (zmin 10000 ((((s2 45 5) * 10) + v5) - 48))) fun s6 =>
        nm (zw_wr s6 45 4 ((s6 45 4) + 1)) fun s7 =>
        m_X4_readNumber_5 n s7
def m_X4_readNumber (σ : zw_S) : Option zw_S :=
  nm (zw_wr σ 45 5 0) fun s1 =>
  m_X4_readNumber_5 200 s1
-- X4_advance
def m_X4_advance_89 : Nat → zw_S → Option zw_S
  | 0, _ => none
  | n + 1, σ =>
    if σ 45 1 ≤ σ 45 4 then
      some σ
    else
      cl (m_X4_isLetter σ (σ 45 4)) fun r3 s2 =>
      if r3 = 0 then
        some s2
      else
        nm (zw_wr s2 45 4 ((s2 45 4) + 1)) fun s5 =>
        m_X4_advance_89 n s5
def m_X4_advance_46 (σ : zw_S) : Option zw_S :=
  nm (zw_wr σ 45 4 (σ 45 3)) fun s1 =>
  if s1 45 3 < s1 45 1 then
    cl (m_X4_isLetter s1 (s1 45 3)) fun r4 s3 =>
    if r4 = 0 then
      cl (m_X4_isDigit s3 (s3 45 3)) fun r7 s6 =>
      if r7 = 0 then
        rd s6 46 120 (s6 45 3) fun v9 =>
        if v9 = 59 then
          nm (zw_wr s6 45 2 3) fun s13 =>
          nm (zw_wr s13 45 4 ((s13 45 3) + 1)) fun s14 =>
          some s14
        else
          nm (zw_wr s6 45 2 4) fun s11 =>
          nm (zw_wr s11 45 4 ((s11 45 3) + 1)) fun s12 =>
          some s12
      else
        nm (zw_wr s6 45 2 2) fun s15 =>
        cv (m_X4_readNumber s15) fun s16 =>
        some s16
    else
      nm (zw_wr s3 45 2 1) fun s17 =>
      m_X4_advance_89 200 s17
  else
    nm (zw_wr s1 45 2 0) fun s18 =>
    some s18
def m_X4_advance_8 : Nat → zw_S → Option zw_S
  | 0, _ => none
  | n + 1, σ =>
    if σ 45 1 ≤ σ 45 3 then
      m_X4_advance_46 σ
    else
      rd σ 46 120 (σ 45 3) fun v2 =>
      if v2 = 32 then
        nm (zw_wr σ 45 3 ((σ 45 3) + 1)) fun s4 =>
        m_X4_advance_8 n s4
      else
        m_X4_advance_46 σ
def m_X4_advance (σ : zw_S) : Option zw_S :=
  nm (zw_wr σ 45 3 (σ 45 4)) fun s1 =>
  m_X4_advance_8 200 s1
-- X4_isWord
def m_X4_isWord_28 (b1 : Nat) : Nat → zw_S → Int32 → Option (Int32 × zw_S)
  | 0, _, _ => none
  | n + 1, σ, x2 =>
    if zsl b1 ≤ x2 then
      some (1, σ)
    else
      rd σ 46 120 ((σ 45 3) + x2) fun v2 =>
      tt (zi x2 (zw_len.getD b1 0)) <|
      if v2 = zsc b1 x2 then
        nm (x2 + 1) fun v5 =>
        m_X4_isWord_28 b1 n σ v5
      else
        some (0, σ)
def m_X4_isWord (b1 : Nat) (σ : zw_S) : Option (Int32 × zw_S) :=
  if σ 45 2 = 1 then
    if (σ 45 4) - (σ 45 3) = zsl b1 then
      m_X4_isWord_28 b1 200 σ 0
    else
      some (0, σ)
  else
    some (0, σ)
-- X4_kindHere
def m_X4_kindHere (σ : zw_S) : Option (Int32 × zw_S) :=
  cl (m_X4_isWord 6 σ) fun r2 s1 =>
  if r2 = 0 then
    cl (m_X4_isWord 7 s1) fun r5 s4 =>
    if r5 = 0 then
      cl (m_X4_isWord 8 s4) fun r8 s7 =>
      if r8 = 0 then
        cl (m_X4_isWord 9 s7) fun r11 s10 =>
        if r11 = 0 then
          cl (m_X4_isWord 10 s10) fun r14 s13 =>
          if r14 = 0 then
            cl (m_X4_isWord 11 s13) fun r17 s16 =>
            if r17 = 0 then
              cl (m_X4_isWord 12 s16) fun r20 s19 =>
              if r20 = 0 then
                some ((-1), s19)
              else
                some (6, s19)
            else
              some (5, s16)
          else
            some (4, s13)
        else
          some (3, s10)
      else
        some (2, s7)
    else
      some (1, s4)
  else
    some (0, s1)
-- X4_passWord
def m_X4_passWord (b1 : Nat) (σ : zw_S) : Option (Int32 × zw_S) :=
  cl (m_X4_isWord b1 σ) fun r2 s1 =>
  if r2 = 0 then
    tt (zz r2) <|
    some (r2, s1)
  else
    cv (m_X4_advance s1) fun s5 =>
    tt (zz r2) <|
    some (r2, s5)
-- X4_passNumber
def m_X4_passNumber (σ : zw_S) (x1 : Int32) (x2 : Int32) : Option (Int32 × zw_S) :=
  if σ 45 2 = 2 then
    if σ 45 5 < x1 then
      some ((-1), σ)
    else
      if σ 45 5 ≤ x2 then
        nm (σ 45 5) fun v4 =>
        cv (m_X4_advance σ) fun s5 =>
        some (v4, s5)
      else
        some ((-1), σ)
  else
    some ((-1), σ)
-- X4_readName
def m_X4_readName (b1 : Nat) (σ : zw_S) : Option (Int32 × zw_S) :=
  cl (m_X4_passNumber σ 0 7) fun r2 s1 =>
  if r2 < 0 then
    some (0, s1)
  else
    cl (m_X4_passWord 1 s1) fun r5 s4 =>
    if r5 = 0 then
      some (0, s4)
    else
      cl (m_X4_passNumber s4 0 99) fun r8 s7 =>
      if 0 ≤ r8 then
        wt s7 (b1 + 1) 8 r2 r8 fun s10 =>
        some (1, s10)
      else
        some (0, s7)
-- X4_readPerson
def m_X4_readPerson_100 (b1 : Nat) (σ : zw_S) (x2 : Int32) (x3 : Int32) : Option (Int32 × zw_S) :=
  cl (m_X4_passNumber σ 0 7) fun r2 s1 =>
  if 0 ≤ r2 then
    cl (m_X0_addPerson b1 s1 x2 x3 r2) fun r5 s4 =>
    some (1, s4)
  else
    some (0, s1)
def m_X4_readPerson_51 (b1 : Nat) (σ : zw_S) (x2 : Int32) (y0 : Int32) : Option (Int32 × zw_S) :=
  if 0 ≤ y0 then
    cl (m_X4_passWord 5 σ) fun r3 s2 =>
    if r3 = 0 then
      cl (m_X0_addPerson b1 s2 x2 y0 (-1)) fun r6 s5 =>
      some (1, s5)
    else
      if s2 45 2 = 2 then
        if 8 ≤ s2 45 5 then
          m_X4_readPerson_100 b1 s2 x2 y0
        else
          cl (m_X0_bearerOf b1 s2 (s2 45 5)) fun r10 s9 =>
          if r10 < 0 then
            m_X4_readPerson_100 b1 s9 x2 y0
          else
            some (0, s9)
      else
        m_X4_readPerson_100 b1 s2 x2 y0
  else
    some (0, σ)
def m_X4_readPerson_24 (b1 : Nat) (σ : zw_S) (y0 : Int32) : Option (Int32 × zw_S) :=
  if 0 ≤ y0 then
    cl (m_X4_passWord 4 σ) fun r3 s2 =>
    if r3 = 0 then
      m_X4_readPerson_51 b1 s2 y0 0
    else
      cl (m_X4_passNumber s2 0 39) fun r6 s5 =>
      m_X4_readPerson_51 b1 s5 y0 r6
  else
    some (0, σ)
def m_X4_readPerson (b1 : Nat) (σ : zw_S) : Option (Int32 × zw_S) :=
  cv (m_X4_advance σ) fun s1 =>
  cl (m_X4_passWord 3 s1) fun r3 s2 =>
  if r3 = 0 then
    m_X4_readPerson_24 b1 s2 3
  else
    cl (m_X4_passNumber s2 1 9) fun r6 s5 =>
    m_X4_readPerson_24 b1 s5 r6
-- X4_readTask
def m_X4_readTask_76 (b1 : Nat) (σ : zw_S) (x2 : Int32) (x3 : Int32) (x4 : Int32) (x5 : Int32) : Option (Int32 × zw_S) :=
  cl (m_X0_addTask b1 σ x2 x3 x4 x5) fun r2 s1 =>
  some (1, s1)
def m_X4_readTask (b1 : Nat) (σ : zw_S) (x2 : Int32) : Option (Int32 × zw_S) :=
  cv (m_X4_advance σ) fun s1 =>
  cl (m_X4_passNumber s1 0 7) fun r3 s2 =>
  if r3 < 0 then
    some (0, s2)
  else
    cl (m_X4_passWord 13 s2) fun r6 s5 =>
    if r6 = 0 then
      some (0, s5)
    else
      cl (m_X4_passNumber s5 1 999) fun r9 s8 =>
      if 0 ≤ r9 then
        cl (m_X4_passWord 14 s8) fun r12 s11 =>
        if r12 = 0 then
          m_X4_readTask_76 b1 s11 x2 r3 r9 (-1)
        else
          cl (m_X4_passNumber s11 0 ((s11 b1 2) - 1)) fun r15 s14 =>
          if 0 ≤ r15 then
            m_X4_readTask_76 b1 s14 x2 r3 r9 r15
          else
            some (0, s14)
      else
        some (0, s8)
-- X4_readItem
def m_X4_readItem (b1 : Nat) (σ : zw_S) : Option (Int32 × zw_S) :=
  cl (m_X4_passWord 0 σ) fun r2 s1 =>
  if r2 = 0 then
    cl (m_X4_isWord 2 s1) fun r5 s4 =>
    if r5 = 0 then
      cl (m_X4_kindHere s4) fun r8 s7 =>
      if r8 < 0 then
        some (0, s7)
      else
        if 20 ≤ s7 b1 2 then
          some (0, s7)
        else
          cl (m_X4_readTask b1 s7 r8) fun r12 s11 =>
          if r12 = 0 then
            some (0, s11)
          else
            some (1, s11)
    else
      if 8 ≤ s4 b1 3 then
        some (0, s4)
      else
        cl (m_X4_readPerson b1 s4) fun r16 s15 =>
        if r16 = 0 then
          some (0, s15)
        else
          some (1, s15)
  else
    cl (m_X4_readName b1 s1) fun r19 s18 =>
    tt (zz r19) <|
    some (r19, s18)
-- X4_readInto
def m_X4_readInto_54 (b1 : Nat) (σ : zw_S) : Option (Int32 × zw_S) :=
  some ((-1) - (σ 45 3), σ)
def m_X4_readInto_45 (b1 : Nat) (σ : zw_S) : Option (Int32 × zw_S) :=
  m_X4_readInto_54 b1 σ
def m_X4_readInto_7 (b1 : Nat) : Nat → zw_S → Int32 → Option (Int32 × zw_S)
  | 0, _, _ => none
  | n + 1, σ, x2 =>
    if 120 < x2 then
      m_X4_readInto_54 b1 σ
    else
      cv (m_X4_advance σ) fun s2 =>
      cl (m_X4_readItem b1 s2) fun r4 s3 =>
      if r4 = 0 then
        m_X4_readInto_54 b1 s3
      else
        if s3 45 2 = 0 then
          some (x2, s3)
        else
          if s3 45 2 = 3 then
            nm (x2 + 1) fun v8 =>
            m_X4_readInto_7 b1 n s3 v8
          else
            m_X4_readInto_45 b1 s3
def m_X4_readInto (b1 : Nat) (σ : zw_S) : Option (Int32 × zw_S) :=
  nm (zw_wr σ 45 4 0) fun s1 =>
  m_X4_readInto_7 b1 200 s1 1
-- X6_isIn
def m_X6_isIn (σ : zw_S) (x0 : Int32) (x1 : Int32) (x2 : Int32) : Option (Int32 × zw_S) :=
  if x0 < x1 then
    some (0, σ)
  else
    if x2 < x0 then
      some (0, σ)
    else
      some (1, σ)
-- X6_found
def m_X6_found (σ : zw_S) (x1 : Int32) : Option (Int32 × zw_S) :=
  nm ((-1000001) - x1) fun v1 =>
  cl (m_X6_isIn σ v1 0 6) fun r3 s2 =>
  if r3 = 0 then
    some (x1, s2)
  else
    rd s2 56 7 v1 fun v5 =>
    wt s2 56 7 v1 (v5 + 1) fun s6 =>
    some (x1, s6)
-- X6_isName
def m_X6_isName (σ : zw_S) (x0 : Int32) : Option (Int32 × zw_S) :=
  if x0 < 0 then
    some (0, σ)
  else
    if 8 ≤ x0 then
      some (0, σ)
    else
      some (1, σ)
-- X6_worth
def m_X6_worth (σ : zw_S) (x1 : Int32) (x2 : Int32) : Option (Int32 × zw_S) :=
  cl (m_X6_isName σ x1) fun r2 s1 =>
  if r2 = 0 then
    cl (m_X6_found s1 (-1000001)) fun r5 s4 =>
    some (r5, s4)
  else
    cl (m_X6_isIn s1 x2 0 99) fun r7 s6 =>
    if r7 = 0 then
      cl (m_X6_found s6 (-1000001)) fun r12 s11 =>
      some (r12, s11)
    else
      rd s6 2 8 x1 fun v9 =>
      wt s6 2 8 x1 x2 fun s10 =>
      some (v9, s10)
-- X6_task
def m_X6_task (σ : zw_S) (x1 : Int32) (x2 : Int32) (x3 : Int32) : Option (Int32 × zw_S) :=
  cl (m_X2_isKind σ x1) fun r2 s1 =>
  if r2 = 0 then
    cl (m_X6_found s1 (-1000001)) fun r5 s4 =>
    some (r5, s4)
  else
    cl (m_X6_isName s1 x2) fun r7 s6 =>
    if r7 = 0 then
      cl (m_X6_found s6 (-1000001)) fun r10 s9 =>
      some (r10, s9)
    else
      cl (m_X6_isIn s6 x3 1 999) fun r12 s11 =>
      if r12 = 0 then
        cl (m_X6_found s11 (-1000001)) fun r20 s19 =>
        some (r20, s19)
      else
        if s11 1 2 < 20 then
          cl (m_X0_addTask 1 s11 x1 x2 x3 (-1)) fun r16 s15 =>
          some (r16, s15)
        else
          cl (m_X6_found s11 (-1000002)) fun r18 s17 =>
          some (r18, s17)
-- X6_taskOf
def m_X6_taskOf (σ : zw_S) (x1 : Int32) (x2 : Int32) : Option (Int32 × zw_S) :=
  cl (m_X0_hasTask 1 σ x1) fun r2 s1 =>
  if r2 = 0 then
    cl (m_X6_found s1 (-1000001)) fun r22 s21 =>
    some (r22, s21)
  else
    if x2 = 0 then
      rd s1 4 20 x1 fun v5 =>
      some (v5, s1)
    else
      if x2 = 1 then
        rd s1 5 20 x1 fun v7 =>
        some (v7, s1)
      else
        if x2 = 2 then
          rd s1 6 20 x1 fun v9 =>
          some (v9, s1)
        else
          if x2 = 3 then
            rd s1 7 20 x1 fun v11 =>
            some (v11, s1)
          else
            if x2 = 4 then
              cl (m_X0_growthOf 1 s1 x1) fun r14 s13 =>
              some (r14, s13)
            else
              if x2 = 5 then
                cl (m_X0_isWaiting 1 s1 x1 x1) fun r17 s16 =>
                if r17 = 0 then
                  some (0, s16)
                else
                  some (1, s16)
              else
                cl (m_X6_found s1 (-1000001)) fun r20 s19 =>
                some (r20, s19)
-- X6_turn
def m_X6_turn (σ : zw_S) (x1 : Int32) (x2 : Int32) : Option (Int32 × zw_S) :=
  cl (m_X0_hasTask 1 σ x1) fun r2 s1 =>
  if r2 = 0 then
    cl (m_X6_found s1 (-1000001)) fun r5 s4 =>
    some (r5, s4)
  else
    cl (m_X2_isKind s1 x2) fun r7 s6 =>
    if r7 = 0 then
      cl (m_X6_found s6 (-1000001)) fun r12 s11 =>
      some (r12, s11)
    else
      rd s6 4 20 x1 fun v9 =>
      wt s6 4 20 x1 x2 fun s10 =>
      some (v9, s10)
-- X6_needs
def m_X6_needs_39 (σ : zw_S) (x1 : Int32) (x2 : Int32) : Option (Int32 × zw_S) :=
  rd σ 7 20 x1 fun v1 =>
  wt σ 7 20 x1 x2 fun s2 =>
  some (v1, s2)
def m_X6_needs (σ : zw_S) (x1 : Int32) (x2 : Int32) : Option (Int32 × zw_S) :=
  cl (m_X0_hasTask 1 σ x1) fun r2 s1 =>
  if r2 = 0 then
    cl (m_X6_found s1 (-1000001)) fun r5 s4 =>
    some (r5, s4)
  else
    if x2 = x1 then
      cl (m_X6_found s1 (-1000001)) fun r8 s7 =>
      some (r8, s7)
    else
      if x2 = (-1) then
        m_X6_needs_39 s1 x1 x2
      else
        cl (m_X0_hasTask 1 s1 x2) fun r11 s10 =>
        if r11 = 0 then
          cl (m_X6_found s10 (-1000001)) fun r14 s13 =>
          some (r14, s13)
        else
          m_X6_needs_39 s10 x1 x2
-- X6_strike
def m_X6_strike (σ : zw_S) (x1 : Int32) : Option (Int32 × zw_S) :=
  cl (m_X0_hasTask 1 σ x1) fun r2 s1 =>
  if r2 = 0 then
    cl (m_X6_found s1 (-1000001)) fun r7 s6 =>
    some (r7, s6)
  else
    rd s1 6 20 x1 fun v4 =>
    wt s1 6 20 x1 0 fun s5 =>
    some (v4, s5)
-- X6_nameOf
def m_X6_nameOf (σ : zw_S) (x1 : Int32) (x2 : Int32) : Option (Int32 × zw_S) :=
  cl (m_X6_isName σ x1) fun r2 s1 =>
  if r2 = 0 then
    cl (m_X6_found s1 (-1000001)) fun r27 s26 =>
    some (r27, s26)
  else
    if x2 = 0 then
      rd s1 2 8 x1 fun v5 =>
      some (v5, s1)
    else
      if x2 = 1 then
        cl (m_X0_isOpen 1 s1 x1) fun r8 s7 =>
        if r8 = 0 then
          some (0, s7)
        else
          some (1, s7)
      else
        if x2 = 2 then
          cl (m_X0_bearerOf 1 s1 x1) fun r12 s11 =>
          some (r12, s11)
        else
          if x2 = 3 then
            cl (m_X0_tasksOf 1 s1 x1) fun r15 s14 =>
            some (r15, s14)
          else
            if x2 = 4 then
              cl (m_X0_hoursOf 1 s1 x1) fun r18 s17 =>
              some (r18, s17)
            else
              if x2 = 5 then
                cl (m_X0_handOf 1 s1 x1) fun r21 s20 =>
                some (r21, s20)
              else
                if x2 = 6 then
                  rd s1 3 8 x1 fun v23 =>
                  some (v23, s1)
                else
                  cl (m_X6_found s1 (-1000001)) fun r25 s24 =>
                  some (r25, s24)
-- X6_rings
def m_X6_rings_4 : Nat → zw_S → Int32 → Int32 → Option (Int32 × zw_S)
  | 0, _, _, _ => none
  | n + 1, σ, x1, x2 =>
    if σ 1 2 ≤ x2 then
      some (x1, σ)
    else
      cl (m_X0_isWaiting 1 σ x2 x2) fun r3 s2 =>
      if r3 = 0 then
        nm (x2 + 1) fun v5 =>
        m_X6_rings_4 n s2 x1 v5
      else
        nm (x1 ||| (1 <<< (x2 &&& 31))) fun v6 =>
        nm (x2 + 1) fun v7 =>
        m_X6_rings_4 n s2 v6 v7
def m_X6_rings (σ : zw_S) : Option (Int32 × zw_S) :=
  m_X6_rings_4 200 σ 0 0
-- X6_waits
def m_X6_waits_22 : Nat → zw_S → Int32 → Int32 → Int32 → Option (Int32 × zw_S)
  | 0, _, _, _, _ => none
  | n + 1, σ, x1, x2, x3 =>
    if σ 1 2 ≤ x3 then
      some (x2, σ)
    else
      cl (m_X0_isWaiting 1 σ x3 x1) fun r3 s2 =>
      if r3 = 0 then
        nm (x3 + 1) fun v5 =>
        m_X6_waits_22 n s2 x1 x2 v5
      else
        nm (x2 ||| (1 <<< (x3 &&& 31))) fun v6 =>
        nm (x3 + 1) fun v7 =>
        m_X6_waits_22 n s2 x1 v6 v7
def m_X6_waits (σ : zw_S) (x1 : Int32) : Option (Int32 × zw_S) :=
  cl (m_X0_hasTask 1 σ x1) fun r2 s1 =>
  if r2 = 0 then
    cl (m_X6_found s1 (-1000001)) fun r5 s4 =>
    some (r5, s4)
  else
    m_X6_waits_22 200 s1 x1 0 0
-- X6_person
def m_X6_person (σ : zw_S) (x1 : Int32) : Option (Int32 × zw_S) :=
  cl (m_X6_isIn σ x1 1 9) fun r2 s1 =>
  if r2 = 0 then
    cl (m_X6_found s1 (-1000001)) fun r10 s9 =>
    some (r10, s9)
  else
    if s1 1 3 < 8 then
      cl (m_X0_addPerson 1 s1 x1 0 (-1)) fun r6 s5 =>
      some (r6, s5)
    else
      cl (m_X6_found s1 (-1000002)) fun r8 s7 =>
      some (r8, s7)
-- X6_of
def m_X6_of (σ : zw_S) (x1 : Int32) (x2 : Int32) : Option (Int32 × zw_S) :=
  cl (m_X0_hasPerson 1 σ x1) fun r2 s1 =>
  if r2 = 0 then
    cl (m_X6_found s1 (-1000001)) fun r15 s14 =>
    some (r15, s14)
  else
    if x2 = 0 then
      rd s1 8 8 x1 fun v5 =>
      some (v5, s1)
    else
      if x2 = 1 then
        rd s1 9 8 x1 fun v7 =>
        some (v7, s1)
      else
        if x2 = 2 then
          rd s1 10 8 x1 fun v9 =>
          some (v9, s1)
        else
          if x2 = 3 then
            rd s1 11 8 x1 fun v11 =>
            some (v11, s1)
          else
            cl (m_X6_found s1 (-1000001)) fun r13 s12 =>
            some (r13, s12)
-- X6_change
def m_X6_change_57 (σ : zw_S) (x1 : Int32) (x2 : Int32) (x3 : Int32) : Option (Int32 × zw_S) :=
  if x2 = 1 then
    cl (m_X6_isIn σ x3 0 39) fun r5 s4 =>
    if r5 = 0 then
      cl (m_X6_found s4 (-1000001)) fun r8 s7 =>
      some (r8, s7)
    else
      rd s4 9 8 x1 fun v9 =>
      wt s4 9 8 x1 x3 fun s10 =>
      some (v9, s10)
  else
    cl (m_X6_found σ (-1000001)) fun r3 s2 =>
    some (r3, s2)
def m_X6_change (σ : zw_S) (x1 : Int32) (x2 : Int32) (x3 : Int32) : Option (Int32 × zw_S) :=
  cl (m_X0_hasPerson 1 σ x1) fun r2 s1 =>
  if r2 = 0 then
    cl (m_X6_found s1 (-1000001)) fun r11 s10 =>
    some (r11, s10)
  else
    if x2 = 2 then
      cl (m_X6_isIn s1 x3 1 9) fun r6 s5 =>
      if r6 = 0 then
        m_X6_change_57 s5 x1 x2 x3
      else
        rd s5 10 8 x1 fun v8 =>
        wt s5 10 8 x1 x3 fun s9 =>
        some (v8, s9)
    else
      m_X6_change_57 s1 x1 x2 x3
-- X6_helps
def m_X6_helps_39 (σ : zw_S) (x1 : Int32) (x2 : Int32) : Option (Int32 × zw_S) :=
  rd σ 11 8 x1 fun v1 =>
  wt σ 11 8 x1 x2 fun s2 =>
  some (v1, s2)
def m_X6_helps (σ : zw_S) (x1 : Int32) (x2 : Int32) : Option (Int32 × zw_S) :=
  cl (m_X0_hasPerson 1 σ x1) fun r2 s1 =>
  if r2 = 0 then
    cl (m_X6_found s1 (-1000001)) fun r5 s4 =>
    some (r5, s4)
  else
    if x2 = x1 then
      cl (m_X6_found s1 (-1000001)) fun r8 s7 =>
      some (r8, s7)
    else
      if x2 = (-1) then
        m_X6_helps_39 s1 x1 x2
      else
        cl (m_X0_hasPerson 1 s1 x2) fun r11 s10 =>
        if r11 = 0 then
          cl (m_X6_found s10 (-1000001)) fun r14 s13 =>
          some (r14, s13)
        else
          m_X6_helps_39 s10 x1 x2
-- X6_take
def m_X6_take_30 (σ : zw_S) (x1 : Int32) (x2 : Int32) : Option (Int32 × zw_S) :=
  cl (m_X0_mayTake 1 σ x1 x2) fun r2 s1 =>
  if r2 = 0 then
    cl (m_X6_found s1 (-1000005)) fun r7 s6 =>
    some (r7, s6)
  else
    rd s1 8 8 x1 fun v4 =>
    wt s1 8 8 x1 x2 fun s5 =>
    some (v4, s5)
def m_X6_take (σ : zw_S) (x1 : Int32) (x2 : Int32) : Option (Int32 × zw_S) :=
  cl (m_X0_hasPerson 1 σ x1) fun r2 s1 =>
  if r2 = 0 then
    cl (m_X6_found s1 (-1000001)) fun r5 s4 =>
    some (r5, s4)
  else
    if x2 = (-1) then
      m_X6_take_30 s1 x1 x2
    else
      cl (m_X6_isName s1 x2) fun r8 s7 =>
      if r8 = 0 then
        cl (m_X6_found s7 (-1000001)) fun r11 s10 =>
        some (r11, s10)
      else
        m_X6_take_30 s7 x1 x2
-- X6_exchange
def m_X6_exchange (σ : zw_S) (x1 : Int32) (x2 : Int32) : Option (Int32 × zw_S) :=
  cl (m_X0_hasPerson 1 σ x1) fun r2 s1 =>
  if r2 = 0 then
    cl (m_X6_found s1 (-1000001)) fun r5 s4 =>
    some (r5, s4)
  else
    cl (m_X0_hasPerson 1 s1 x2) fun r7 s6 =>
    if r7 = 0 then
      cl (m_X6_found s6 (-1000001)) fun r10 s9 =>
      some (r10, s9)
    else
      if x1 = x2 then
        cl (m_X6_found s6 (-1000001)) fun r25 s24 =>
        some (r25, s24)
      else
        rd s6 9 8 x1 fun v12 =>
        if 40 ≤ v12 then
          cl (m_X6_found s6 (-1000005)) fun r15 s14 =>
          some (r15, s14)
        else
          rd s6 9 8 x2 fun v16 =>
          if v16 < 40 then
            rd s6 8 8 x1 fun v18 =>
            rd s6 8 8 x2 fun v19 =>
            wt s6 8 8 x1 v19 fun s20 =>
            wt s20 8 8 x2 v18 fun s21 =>
            some (1, s21)
          else
            cl (m_X6_found s6 (-1000005)) fun r23 s22 =>
            some (r23, s22)
-- X6_born
def m_X6_born_64 (σ : zw_S) : Option (Int32 × zw_S) :=
  some (σ 1 3, σ)
def m_X6_born_19 : Nat → zw_S → Int32 → Int32 → Option (Int32 × zw_S)
  | 0, _, _, _ => none
  | n + 1, σ, x1, x2 =>
    if x1 ≤ x2 then
      m_X6_born_64 σ
    else
      if 8 ≤ σ 1 3 then
        m_X6_born_64 σ
      else
        cl (m_X0_draw 1 σ) fun r4 s3 =>
        cl (m_X0_addPerson 1 s3 ((r4 - r4 / 9 * 9) + 1) 0 (-1)) fun r6 s5 =>
        nm (x2 + 1) fun v7 =>
        m_X6_born_19 n s5 x1 v7
def m_X6_born (σ : zw_S) (x1 : Int32) : Option (Int32 × zw_S) :=
  cl (m_X6_isIn σ x1 1 8) fun r2 s1 =>
  if r2 = 0 then
    cl (m_X6_found s1 (-1000001)) fun r5 s4 =>
    some (r5, s4)
  else
    m_X6_born_19 200 s1 x1 0
-- X6_isTooLate
def m_X6_isTooLate (σ : zw_S) (x1 : Int32) : Option (Int32 × zw_S) :=
  if (σ 1 0) + x1 ≤ 999 then
    some (0, σ)
  else
    some (1, σ)
-- X6_years
def m_X6_years (σ : zw_S) (x1 : Int32) : Option (Int32 × zw_S) :=
  cl (m_X6_isIn σ x1 1 60) fun r2 s1 =>
  if r2 = 0 then
    cl (m_X6_found s1 (-1000001)) fun r15 s14 =>
    some (r15, s14)
  else
    cl (m_X6_isTooLate s1 x1) fun r5 s4 =>
    if r5 = 0 then
      cl (m_X0_endedTasks 1 s4) fun r8 s7 =>
      cv (m_X5_go 1 s7 x1) fun s9 =>
      cl (m_X0_endedTasks 1 s9) fun r11 s10 =>
      some (r11 - r8, s10)
    else
      cl (m_X6_found s4 (-1000005)) fun r13 s12 =>
      some (r13, s12)
-- X6_lookAhead
def m_X6_lookAhead (σ : zw_S) (x1 : Int32) : Option zw_S :=
  cv (m_X0_setTo 25 1 σ) fun s1 =>
  cv (m_X5_go 25 s1 x1) fun s2 =>
  some s2
-- X6_ahead
def m_X6_ahead (σ : zw_S) (x1 : Int32) (x2 : Int32) : Option (Int32 × zw_S) :=
  cl (m_X6_isIn σ x1 0 100) fun r2 s1 =>
  if r2 = 0 then
    cl (m_X6_found s1 (-1000001)) fun r5 s4 =>
    some (r5, s4)
  else
    cl (m_X6_isIn s1 x2 0 4) fun r7 s6 =>
    if r7 = 0 then
      cl (m_X6_found s6 (-1000001)) fun r30 s29 =>
      some (r30, s29)
    else
      cl (m_X6_isTooLate s6 x1) fun r10 s9 =>
      if r10 = 0 then
        cv (m_X6_lookAhead s9 x1) fun s12 =>
        if x2 = 0 then
          cl (m_X0_endedTasks 25 s12) fun r15 s14 =>
          some ((s12 25 2) - r15, s14)
        else
          if x2 = 1 then
            cl (m_X0_hoursOfAll 25 s12) fun r18 s17 =>
            some (r18, s17)
          else
            if x2 = 2 then
              cl (m_X0_openNames 25 s12) fun r21 s20 =>
              some (r21, s20)
            else
              if x2 = 3 then
                cl (m_X0_endedWorth 25 s12) fun r24 s23 =>
                some (r24, s23)
              else
                cl (m_X0_goneOfAll 25 s12) fun r26 s25 =>
                some (r26, s25)
      else
        cl (m_X6_found s9 (-1000005)) fun r28 s27 =>
        some (r28, s27)
-- X6_shut
def m_X6_shut_74 (σ : zw_S) : Option (Int32 × zw_S) :=
  cl (m_X6_found σ (-1000004)) fun r2 s1 =>
  some (r2, s1)
def m_X6_shut_37 : Nat → zw_S → Int32 → Int32 → Option (Int32 × zw_S)
  | 0, _, _, _ => none
  | n + 1, σ, x1, x2 =>
    if 100 < x2 then
      m_X6_shut_74 σ
    else
      cl (m_X0_isOpen 25 σ x1) fun r3 s2 =>
      if r3 = 0 then
        some (x2, s2)
      else
        cv (m_X5_go 25 s2 1) fun s5 =>
        nm (x2 + 1) fun v6 =>
        m_X6_shut_37 n s5 x1 v6
def m_X6_shut (σ : zw_S) (x1 : Int32) : Option (Int32 × zw_S) :=
  cl (m_X6_isName σ x1) fun r2 s1 =>
  if r2 = 0 then
    cl (m_X6_found s1 (-1000001)) fun r11 s10 =>
    some (r11, s10)
  else
    cl (m_X6_isTooLate s1 100) fun r5 s4 =>
    if r5 = 0 then
      cv (m_X6_lookAhead s4 0) fun s7 =>
      m_X6_shut_37 200 s7 x1 0
    else
      cl (m_X6_found s4 (-1000005)) fun r9 s8 =>
      some (r9, s8)
-- X6_ends
def m_X6_ends_78 (σ : zw_S) : Option (Int32 × zw_S) :=
  cl (m_X6_found σ (-1000004)) fun r2 s1 =>
  some (r2, s1)
def m_X6_ends_41 : Nat → zw_S → Int32 → Int32 → Option (Int32 × zw_S)
  | 0, _, _, _ => none
  | n + 1, σ, x1, x2 =>
    if 100 < x2 then
      m_X6_ends_78 σ
    else
      cl (m_X0_isEnded 25 σ x1) fun r3 s2 =>
      if r3 = 0 then
        cv (m_X5_go 25 s2 1) fun s5 =>
        nm (x2 + 1) fun v6 =>
        m_X6_ends_41 n s5 x1 v6
      else
        some (x2, s2)
def m_X6_ends (σ : zw_S) (x1 : Int32) : Option (Int32 × zw_S) :=
  cl (m_X0_hasTask 1 σ x1) fun r2 s1 =>
  if r2 = 0 then
    cl (m_X6_found s1 (-1000001)) fun r11 s10 =>
    some (r11, s10)
  else
    cl (m_X6_isTooLate s1 100) fun r5 s4 =>
    if r5 = 0 then
      cv (m_X6_lookAhead s4 0) fun s7 =>
      m_X6_ends_41 200 s7 x1 0
    else
      cl (m_X6_found s4 (-1000005)) fun r9 s8 =>
      some (r9, s8)
-- X6_isShutInTime
def m_X6_isShutInTime (σ : zw_S) (x1 : Int32) (x2 : Int32) (x3 : Int32) : Option (Int32 × zw_S) :=
  cv (m_X0_setTo 25 1 σ) fun s1 =>
  wt s1 32 8 x1 x2 fun s2 =>
  wt s2 34 8 x1 x3 fun s3 =>
  rd s3 9 8 x1 fun v4 =>
  cv (m_X5_go 25 s3 (40 - v4)) fun s5 =>
  cl (m_X0_isOpen 25 s5 x2) fun r7 s6 =>
  if r7 = 0 then
    some (1, s6)
  else
    some (0, s6)
-- X6_choose
def m_X6_choose_156 (σ : zw_S) (x3 : Int32) : Option (Int32 × zw_S) :=
  if 0 ≤ x3 then
    some (x3, σ)
  else
    cl (m_X6_found σ (-1000004)) fun r3 s2 =>
    some (r3, s2)
def m_X6_choose_111 (R73 : zw_S → Int32 → Int32 → Int32 → Int32 → Option (Int32 × zw_S)) (σ : zw_S) (x1 : Int32) (x2 : Int32) (x3 : Int32) (x4 : Int32) (y0 : Int32) : Option (Int32 × zw_S) :=
  if (zush x2 x4) &&& 1 = 1 then
    if y0 = 0 then
      nm (x4 + 1) fun v4 =>
      R73 σ x1 x2 x3 v4
    else
      rd σ 10 8 x1 fun v5 =>
      cl (m_X6_isShutInTime σ x1 x4 v5) fun r7 s6 =>
      if r7 = 0 then
        nm (x4 + 1) fun v9 =>
        R73 s6 x1 x2 x3 v9
      else
        nm (x4 + 1) fun v10 =>
        R73 s6 x1 x2 x4 v10
  else
    nm (x4 + 1) fun v2 =>
    R73 σ x1 x2 x3 v2
def m_X6_choose_73 : Nat → zw_S → Int32 → Int32 → Int32 → Int32 → Option (Int32 × zw_S)
  | 0, _, _, _, _, _ => none
  | n + 1, σ, x1, x2, x3, x4 =>
    if 8 ≤ x4 then
      m_X6_choose_156 σ x3
    else
      if x3 < 0 then
        m_X6_choose_111 (m_X6_choose_73 n) σ x1 x2 x3 x4 1
      else
        rd σ 2 8 x4 fun v3 =>
        rd σ 2 8 x3 fun v4 =>
        if v3 ≤ v4 then
          m_X6_choose_111 (m_X6_choose_73 n) σ x1 x2 x3 x4 0
        else
          m_X6_choose_111 (m_X6_choose_73 n) σ x1 x2 x3 x4 1
def m_X6_choose (σ : zw_S) (x1 : Int32) : Option (Int32 × zw_S) :=
  cl (m_X0_hasPerson 1 σ x1) fun r2 s1 =>
  if r2 = 0 then
    cl (m_X6_found s1 (-1000001)) fun r20 s19 =>
    some (r20, s19)
  else
    rd s1 8 8 x1 fun v4 =>
    if 0 ≤ v4 then
      cl (m_X6_found s1 (-1000005)) fun r7 s6 =>
      some (r7, s6)
    else
      rd s1 9 8 x1 fun v8 =>
      if 40 ≤ v8 then
        cl (m_X6_found s1 (-1000005)) fun r11 s10 =>
        some (r11, s10)
      else
        cl (m_X6_isTooLate s1 40) fun r13 s12 =>
        if r13 = 0 then
          cl (m_X0_freeNames 1 s12) fun r16 s15 =>
          m_X6_choose_73 200 s15 x1 r16 (-1) 0
        else
          cl (m_X6_found s12 (-1000005)) fun r18 s17 =>
          some (r18, s17)
-- X6_handsFor
def m_X6_handsFor_74 (σ : zw_S) : Option (Int32 × zw_S) :=
  cl (m_X6_found σ (-1000004)) fun r2 s1 =>
  some (r2, s1)
def m_X6_handsFor_50 : Nat → zw_S → Int32 → Int32 → Int32 → Option (Int32 × zw_S)
  | 0, _, _, _, _ => none
  | n + 1, σ, x1, x2, x3 =>
    if 9 < x3 then
      m_X6_handsFor_74 σ
    else
      cl (m_X6_isShutInTime σ x1 x2 x3) fun r3 s2 =>
      if r3 = 0 then
        nm (x3 + 1) fun v5 =>
        m_X6_handsFor_50 n s2 x1 x2 v5
      else
        some (x3, s2)
def m_X6_handsFor (σ : zw_S) (x1 : Int32) : Option (Int32 × zw_S) :=
  cl (m_X0_hasPerson 1 σ x1) fun r2 s1 =>
  if r2 = 0 then
    cl (m_X6_found s1 (-1000001)) fun r14 s13 =>
    some (r14, s13)
  else
    rd s1 8 8 x1 fun v4 =>
    if v4 < 0 then
      cl (m_X6_found s1 (-1000005)) fun r7 s6 =>
      some (r7, s6)
    else
      cl (m_X6_isTooLate s1 40) fun r9 s8 =>
      if r9 = 0 then
        m_X6_handsFor_50 200 s8 x1 v4 1
      else
        cl (m_X6_found s8 (-1000005)) fun r12 s11 =>
        some (r12, s11)
-- X6_whyNoGiving
def m_X6_whyNoGiving (σ : zw_S) (x1 : Int32) : Option (Int32 × zw_S) :=
  cl (m_X6_isIn σ x1 1 40) fun r2 s1 =>
  if r2 = 0 then
    some ((-1000001), s1)
  else
    cl (m_X6_isTooLate s1 x1) fun r5 s4 =>
    if r5 = 0 then
      cl (m_X1_gather 1 s4) fun r8 s7 =>
      if r8 = 0 then
        some ((-1000007), s7)
      else
        some (0, s7)
    else
      some ((-1000005), s4)
-- X6_most
def m_X6_most (σ : zw_S) (x1 : Int32) : Option (Int32 × zw_S) :=
  cl (m_X6_whyNoGiving σ x1) fun r2 s1 =>
  if r2 = 0 then
    cv (m_X1_begin 1 s1 x1) fun s4 =>
    cl (m_X0_freeNames 1 s4) fun r6 s5 =>
    cv (m_X1_weighFrom 1 s5 x1 0 r6 (s5 39 8)) fun s7 =>
    some (s7 39 9, s7)
  else
    cl (m_X6_found s1 r2) fun r9 s8 =>
    some (r9, s8)
-- X6_give
def m_X6_give (σ : zw_S) (x1 : Int32) : Option (Int32 × zw_S) :=
  cl (m_X6_whyNoGiving σ x1) fun r2 s1 =>
  if r2 = 0 then
    cv (m_X1_begin 1 s1 x1) fun s4 =>
    cl (m_X0_freeNames 1 s4) fun r6 s5 =>
    cv (m_X1_weighFrom 1 s5 x1 0 r6 (s5 39 8)) fun s7 =>
    cl (m_X1_carryOut 1 s7) fun r9 s8 =>
    some (r9, s8)
  else
    cl (m_X6_found s1 r2) fun r11 s10 =>
    some (r11, s10)
-- X6_lives
def m_X6_lives_106 (σ : zw_S) : Option (Int32 × zw_S) :=
  cl (m_X6_found σ (-1000004)) fun r2 s1 =>
  some (r2, s1)
def m_X6_lives_49 : Nat → zw_S → Int32 → Int32 → Int32 → Option (Int32 × zw_S)
  | 0, _, _, _, _ => none
  | n + 1, σ, x1, x2, x3 =>
    if 9 < x3 then
      m_X6_lives_106 σ
    else
      nm (zw_wr σ 25 3 0) fun s2 =>
      cl (m_X0_addPerson 25 s2 x2 0 x1) fun r4 s3 =>
      cv (m_X5_go 25 s3 40) fun s5 =>
      cl (m_X0_isOpen 25 s5 x1) fun r7 s6 =>
      if r7 = 0 then
        some (x3, s6)
      else
        nm (x3 + 1) fun v9 =>
        m_X6_lives_49 n s6 x1 x2 v9
def m_X6_lives (σ : zw_S) (x1 : Int32) (x2 : Int32) : Option (Int32 × zw_S) :=
  cl (m_X6_isName σ x1) fun r2 s1 =>
  if r2 = 0 then
    cl (m_X6_found s1 (-1000001)) fun r5 s4 =>
    some (r5, s4)
  else
    cl (m_X6_isIn s1 x2 1 9) fun r7 s6 =>
    if r7 = 0 then
      cl (m_X6_found s6 (-1000001)) fun r16 s15 =>
      some (r16, s15)
    else
      cl (m_X0_isOpen 1 s6 x1) fun r10 s9 =>
      if r10 = 0 then
        cl (m_X6_found s9 (-1000005)) fun r14 s13 =>
        some (r14, s13)
      else
        cv (m_X6_lookAhead s9 0) fun s12 =>
        m_X6_lives_49 200 s12 x1 x2 1
-- X6_best
def m_X6_best_131 (σ : zw_S) (x2 : Int32) : Option (Int32 × zw_S) :=
  if 0 ≤ x2 then
    some (x2, σ)
  else
    cl (m_X6_found σ (-1000004)) fun r3 s2 =>
    some (r3, s2)
def m_X6_best_39 : Nat → zw_S → Int32 → Int32 → Int32 → Int32 → Option (Int32 × zw_S)
  | 0, _, _, _, _, _ => none
  | n + 1, σ, x1, x2, x3, x4 =>
    if σ 1 2 ≤ x4 then
      m_X6_best_131 σ x2
    else
      cl (m_X0_isEnded 1 σ x4) fun r3 s2 =>
      if r3 = 0 then
        cv (m_X0_setTo 25 1 s2) fun s5 =>
        wt s5 30 20 x4 0 fun s6 =>
        cv (m_X5_go 25 s6 x1) fun s7 =>
        cl (m_X0_hoursOfAll 25 s7) fun r9 s8 =>
        if x2 < 0 then
          nm (x4 + 1) fun v11 =>
          m_X6_best_39 n s8 x1 x4 r9 v11
        else
          if x3 ≤ r9 then
            nm (x4 + 1) fun v13 =>
            m_X6_best_39 n s8 x1 x2 x3 v13
          else
            nm (x4 + 1) fun v14 =>
            m_X6_best_39 n s8 x1 x4 r9 v14
      else
        nm (x4 + 1) fun v15 =>
        m_X6_best_39 n s2 x1 x2 x3 v15
def m_X6_best (σ : zw_S) (x1 : Int32) : Option (Int32 × zw_S) :=
  cl (m_X6_isIn σ x1 1 60) fun r2 s1 =>
  if r2 = 0 then
    cl (m_X6_found s1 (-1000001)) fun r10 s9 =>
    some (r10, s9)
  else
    cl (m_X6_isTooLate s1 x1) fun r5 s4 =>
    if r5 = 0 then
      m_X6_best_39 200 s4 x1 (-1) 0 0
    else
      cl (m_X6_found s4 (-1000005)) fun r8 s7 =>
      some (r8, s7)
-- X6_whom
def m_X6_whom_51 : Nat → zw_S → Int32 → Int32 → Int32 → Int32 → Int32 → Option (Int32 × zw_S)
  | 0, _, _, _, _, _, _ => none
  | n + 1, σ, x1, x2, x3, x4, x5 =>
    if σ 1 3 ≤ x5 then
      some (x3, σ)
    else
      if x5 = x1 then
        nm (x5 + 1) fun v13 =>
        m_X6_whom_51 n σ x1 x2 x3 x4 v13
      else
        cv (m_X0_setTo 25 1 σ) fun s3 =>
        wt s3 35 8 x1 x5 fun s4 =>
        cv (m_X5_go 25 s4 x2) fun s5 =>
        cl (m_X0_hoursOfAll 25 s5) fun r7 s6 =>
        if x5 < 0 then
          nm (x5 + 1) fun v9 =>
          m_X6_whom_51 n s6 x1 x2 x5 r7 v9
        else
          if x4 ≤ r7 then
            nm (x5 + 1) fun v11 =>
            m_X6_whom_51 n s6 x1 x2 x3 x4 v11
          else
            nm (x5 + 1) fun v12 =>
            m_X6_whom_51 n s6 x1 x2 x5 r7 v12
def m_X6_whom (σ : zw_S) (x1 : Int32) (x2 : Int32) : Option (Int32 × zw_S) :=
  cl (m_X0_hasPerson 1 σ x1) fun r2 s1 =>
  if r2 = 0 then
    cl (m_X6_found s1 (-1000001)) fun r5 s4 =>
    some (r5, s4)
  else
    cl (m_X6_isIn s1 x2 1 60) fun r7 s6 =>
    if r7 = 0 then
      cl (m_X6_found s6 (-1000001)) fun r15 s14 =>
      some (r15, s14)
    else
      cl (m_X6_isTooLate s6 x2) fun r10 s9 =>
      if r10 = 0 then
        m_X6_whom_51 200 s9 x1 x2 (-1) 0 (-1)
      else
        cl (m_X6_found s9 (-1000005)) fun r13 s12 =>
        some (r13, s12)
-- X6_seed
def m_X6_seed (σ : zw_S) (x1 : Int32) : Option (Int32 × zw_S) :=
  nm (σ 1 1) fun v1 =>
  nm (zw_wr σ 1 1 x1) fun s2 =>
  some (v1, s2)
-- X6_feed
def m_X6_feed (σ : zw_S) (x1 : Int32) (x2 : Int32) : Option (Int32 × zw_S) :=
  cl (m_X6_isIn σ x2 1 4) fun r2 s1 =>
  if r2 = 0 then
    cl (m_X6_found s1 (-1000001)) fun r12 s11 =>
    some (r12, s11)
  else
    cl (m_X4_hasRoomFor s1 x2) fun r5 s4 =>
    if r5 = 0 then
      cl (m_X6_found s4 (-1000002)) fun r8 s7 =>
      some (r8, s7)
    else
      cl (m_X4_append s4 x1 x2) fun r10 s9 =>
      some (r10, s9)
-- X6_wipe
def m_X6_wipe (σ : zw_S) : Option (Int32 × zw_S) :=
  cl (m_X4_clear σ) fun r2 s1 =>
  some (r2, s1)
-- X6_text
def m_X6_text (σ : zw_S) : Option (Int32 × zw_S) :=
  cv (m_X0_setTo 25 1 σ) fun s1 =>
  cl (m_X4_readInto 25 s1) fun r3 s2 =>
  cl (m_X4_clear s2) fun r5 s4 =>
  if r3 < 0 then
    some (r3, s4)
  else
    cv (m_X0_setTo 1 25 s4) fun s7 =>
    some (r3, s7)
-- X6_hold
def m_X6_hold (σ : zw_S) (x1 : Int32) (x2 : Int32) : Option (Int32 × zw_S) :=
  cl (m_X6_isIn σ x1 0 9) fun r2 s1 =>
  if r2 = 0 then
    cl (m_X6_found s1 (-1000001)) fun r5 s4 =>
    some (r5, s4)
  else
    if x2 = (-1) then
      wt s1 12 10 x1 x2 fun s7 =>
      some (1, s7)
    else
      cl (m_X0_hasTask 1 s1 x2) fun r9 s8 =>
      if r9 = 0 then
        cl (m_X6_found s8 (-1000001)) fun r13 s12 =>
        some (r13, s12)
      else
        wt s8 12 10 x1 x2 fun s11 =>
        some (1, s11)
-- X6_as
def m_X6_as (σ : zw_S) (x1 : Int32) (x2 : Int32) : Option (Int32 × zw_S) :=
  cl (m_X6_isIn σ x1 0 9) fun r2 s1 =>
  if r2 = 0 then
    cl (m_X6_found s1 (-1000001)) fun r5 s4 =>
    some (r5, s4)
  else
    cl (m_X2_isKind s1 x2) fun r7 s6 =>
    if r7 = 0 then
      cl (m_X6_found s6 (-1000001)) fun r22 s21 =>
      some (r22, s21)
    else
      rd s6 12 10 x1 fun v9 =>
      cl (m_X0_hasTask 1 s6 v9) fun r11 s10 =>
      if r11 = 0 then
        cl (m_X6_found s10 (-1000006)) fun r20 s19 =>
        some (r20, s19)
      else
        rd s10 4 20 v9 fun v13 =>
        cl (m_X2_isUnder s10 v13 x2) fun r15 s14 =>
        if r15 = 0 then
          cl (m_X6_found s14 (-1000003)) fun r18 s17 =>
          some (r18, s17)
        else
          some (v9, s14)
-- X6_isSheet
def m_X6_isSheet (σ : zw_S) (x0 : Int32) : Option (Int32 × zw_S) :=
  if x0 < 0 then
    some (0, σ)
  else
    if 4 ≤ x0 then
      some (0, σ)
    else
      some (1, σ)
-- X6_sheet
def m_X6_sheet_36 (σ : zw_S) (x1 : Int32) (x2 : Int32) (x3 : Int32) : Option (Int32 × zw_S) :=
  if 0 ≤ x3 then
    if x3 ≤ 40 then
      tt (zi x1 4) <|
      cl (m_X3_become (48 + 2 * x1.toNatClampNeg) σ x2 x3) fun r5 s4 =>
      some (r5, s4)
    else
      cl (m_X6_found σ (-1000001)) fun r7 s6 =>
      some (r7, s6)
  else
    cl (m_X6_found σ (-1000007)) fun r9 s8 =>
    some (r9, s8)
def m_X6_sheet (σ : zw_S) (x1 : Int32) (x2 : Int32) (x3 : Int32) : Option (Int32 × zw_S) :=
  cl (m_X6_isSheet σ x1) fun r2 s1 =>
  if r2 = 0 then
    cl (m_X6_found s1 (-1000001)) fun r5 s4 =>
    some (r5, s4)
  else
    if x2 = 0 then
      m_X6_sheet_36 s1 x1 x2 x3
    else
      if x2 = 8 then
        m_X6_sheet_36 s1 x1 x2 x3
      else
        if x2 = 16 then
          m_X6_sheet_36 s1 x1 x2 x3
        else
          if x2 = 32 then
            m_X6_sheet_36 s1 x1 x2 x3
          else
            cl (m_X6_found s1 (-1000001)) fun r11 s10 =>
            some (r11, s10)
-- X6_write
def m_X6_write (σ : zw_S) (x1 : Int32) (x2 : Int32) (x3 : Int32) : Option (Int32 × zw_S) :=
  cl (m_X6_isSheet σ x1) fun r2 s1 =>
  if r2 = 0 then
    cl (m_X6_found s1 (-1000001)) fun r19 s18 =>
    some (r19, s18)
  else
    tt (zi x1 4) <|
    cl (m_X3_isMissing (48 + 2 * x1.toNatClampNeg) s1) fun r6 s5 =>
    if r6 = 0 then
      tt (zi x1 4) <|
      cl (m_X6_isIn s5 x2 0 ((s5 (48 + 2 * x1.toNatClampNeg) 2) - 1)) fun r10 s9 =>
      if r10 = 0 then
        cl (m_X6_found s9 (-1000001)) fun r15 s14 =>
        some (r15, s14)
      else
        tt (zi x1 4) <|
        cv (m_X3_put (48 + 2 * x1.toNatClampNeg) s9 x2 x3) fun s13 =>
        some (1, s13)
    else
      cl (m_X6_found s5 (-1000006)) fun r17 s16 =>
      some (r17, s16)
-- X6_copy
def m_X6_copy (σ : zw_S) (x1 : Int32) (x2 : Int32) (x3 : Int32) (x4 : Int32) (x5 : Int32) : Option (Int32 × zw_S) :=
  cl (m_X6_isSheet σ x1) fun r2 s1 =>
  if r2 = 0 then
    cl (m_X6_found s1 (-1000001)) fun r5 s4 =>
    some (r5, s4)
  else
    cl (m_X6_isSheet s1 x3) fun r7 s6 =>
    if r7 = 0 then
      cl (m_X6_found s6 (-1000001)) fun r43 s42 =>
      some (r43, s42)
    else
      tt (zi x1 4) <|
      cl (m_X3_isMissing (48 + 2 * x1.toNatClampNeg) s6) fun r11 s10 =>
      if r11 = 0 then
        tt (zi x3 4) <|
        cl (m_X3_isMissing (48 + 2 * x3.toNatClampNeg) s10) fun r17 s16 =>
        if r17 = 0 then
          tt (zi x1 4) <|
          tt (zi x3 4) <|
          if s16 (48 + 2 * x1.toNatClampNeg) 1 = s16 (48 + 2 * x3.toNatClampNeg) 1 then
            tt (zi x1 4) <|
            cl (m_X3_hasRange (48 + 2 * x1.toNatClampNeg) s16 x2 x5) fun r24 s23 =>
            if r24 = 0 then
              cl (m_X6_found s23 (-1000001)) fun r27 s26 =>
              some (r27, s26)
            else
              tt (zi x3 4) <|
              cl (m_X3_hasRange (48 + 2 * x3.toNatClampNeg) s23 x4 x5) fun r30 s29 =>
              if r30 = 0 then
                cl (m_X6_found s29 (-1000001)) fun r37 s36 =>
                some (r37, s36)
              else
                tt (zi x1 4) <|
                tt (zi x3 4) <|
                tt (zcp 40 40 x2 x4 x5) <|
                nm (zw_us s29 ((48 + 2 * x3.toNatClampNeg) + 1) (va_cpy (s29 ((48 + 2 * x1.toNatClampNeg) + 1)) (s29 ((48 + 2 * x3.toNatClampNeg) + 1)) (x2 : Int32).toNatClampNeg (x4 : Int32).toNatClampNeg (x5 : Int32).toNatClampNeg)) fun s34 =>
                some (x5, s34)
          else
            cl (m_X6_found s16 (-1000003)) fun r39 s38 =>
            some (r39, s38)
        else
          cl (m_X6_found s16 (-1000006)) fun r41 s40 =>
          some (r41, s40)
      else
        cl (m_X6_found s10 (-1000006)) fun r14 s13 =>
        some (r14, s13)
-- X6_load
def m_X6_load_87 (R55 : zw_S → Int32 → Int32 → Int32 → Option (Int32 × zw_S)) (σ : zw_S) (x1 : Int32) (x2 : Int32) (x3 : Int32) (x4 : Int32) : Option (Int32 × zw_S) :=
  cl (m_X0_mayTake 1 σ x3 x4) fun r2 s1 =>
  if r2 = 0 then
    some (x3, s1)
  else
    wt s1 8 8 x3 x4 fun s4 =>
    nm (x3 + 1) fun v5 =>
    R55 s4 x1 x2 v5
def m_X6_load_55 : Nat → zw_S → Int32 → Int32 → Int32 → Option (Int32 × zw_S)
  | 0, _, _, _, _ => none
  | n + 1, σ, x1, x2, x3 =>
    if x2 ≤ x3 then
      some (x2, σ)
    else
      tt (zi x1 4) <|
      rd σ ((48 + 2 * x1.toNatClampNeg) + 1) 40 x3 fun v3 =>
      if v3 = (-1) then
        m_X6_load_87 (m_X6_load_55 n) σ x1 x2 x3 v3
      else
        cl (m_X6_isName σ v3) fun r6 s5 =>
        if r6 = 0 then
          some (x3, s5)
        else
          m_X6_load_87 (m_X6_load_55 n) s5 x1 x2 x3 v3
def m_X6_load (σ : zw_S) (x1 : Int32) : Option (Int32 × zw_S) :=
  cl (m_X6_isSheet σ x1) fun r2 s1 =>
  if r2 = 0 then
    cl (m_X6_found s1 (-1000001)) fun r13 s12 =>
    some (r13, s12)
  else
    tt (zi x1 4) <|
    cl (m_X3_isMissing (48 + 2 * x1.toNatClampNeg) s1) fun r6 s5 =>
    if r6 = 0 then
      tt (zi x1 4) <|
      nm (zmin (s5 (48 + 2 * x1.toNatClampNeg) 2) (s5 1 3)) fun v9 =>
      m_X6_load_55 200 s5 x1 v9 0
    else
      cl (m_X6_found s5 (-1000006)) fun r11 s10 =>
      some (r11, s10)
-- X6_judge
def m_X6_judge_161 (σ : zw_S) (x4 : Int32) (y0 : Int32) : Option (Int32 × zw_S) :=
  if y0 = 0 then
    some (1 + x4, σ)
  else
    some (0, σ)
def m_X6_judge_130 (σ : zw_S) (x1 : Int32) (x4 : Int32) : Option (Int32 × zw_S) :=
  tt (zi x1 4) <|
  if x4 = σ (48 + 2 * x1.toNatClampNeg) 2 then
    if x4 = σ 25 2 then
      m_X6_judge_161 σ x4 1
    else
      m_X6_judge_161 σ x4 0
  else
    m_X6_judge_161 σ x4 0
def m_X6_judge_93 : Nat → zw_S → Int32 → Int32 → Int32 → Option (Int32 × zw_S)
  | 0, _, _, _, _ => none
  | n + 1, σ, x1, x3, x4 =>
    if x3 ≤ x4 then
      m_X6_judge_130 σ x1 x4
    else
      tt (zi x1 4) <|
      rd σ ((48 + 2 * x1.toNatClampNeg) + 1) 40 x4 fun v3 =>
      rd σ 30 20 x4 fun v4 =>
      if v3 = v4 then
        nm (x4 + 1) fun v6 =>
        m_X6_judge_93 n σ x1 x3 v6
      else
        m_X6_judge_130 σ x1 x4
def m_X6_judge (σ : zw_S) (x1 : Int32) (x2 : Int32) : Option (Int32 × zw_S) :=
  cl (m_X6_isSheet σ x1) fun r2 s1 =>
  if r2 = 0 then
    cl (m_X6_found s1 (-1000001)) fun r24 s23 =>
    some (r24, s23)
  else
    tt (zi x1 4) <|
    cl (m_X3_isMissing (48 + 2 * x1.toNatClampNeg) s1) fun r6 s5 =>
    if r6 = 0 then
      cl (m_X6_isIn s5 x2 0 60) fun r9 s8 =>
      if r9 = 0 then
        cl (m_X6_found s8 (-1000001)) fun r20 s19 =>
        some (r20, s19)
      else
        cl (m_X6_isTooLate s8 x2) fun r12 s11 =>
        if r12 = 0 then
          cv (m_X6_lookAhead s11 x2) fun s14 =>
          tt (zi x1 4) <|
          nm (zmin (s14 (48 + 2 * x1.toNatClampNeg) 2) (s14 25 2)) fun v16 =>
          m_X6_judge_93 200 s14 x1 v16 0
        else
          cl (m_X6_found s11 (-1000005)) fun r18 s17 =>
          some (r18, s17)
    else
      cl (m_X6_found s5 (-1000006)) fun r22 s21 =>
      some (r22, s21)
-- X6_image
def m_X6_image (σ : zw_S) : Option (Int32 × zw_S) :=
  cv (m_X0_setTo 13 1 σ) fun s1 =>
  nm (zw_wr s1 0 8 1) fun s2 =>
  some (1, s2)
-- X6_undo
def m_X6_undo (σ : zw_S) : Option (Int32 × zw_S) :=
  if σ 0 8 = 0 then
    cl (m_X6_found σ (-1000004)) fun r4 s3 =>
    some (r4, s3)
  else
    cv (m_X0_setTo 1 13 σ) fun s2 =>
    some (s2 1 0, s2)
-- X6_tear
def m_X6_tear (σ : zw_S) : Option (Int32 × zw_S) :=
  if σ 0 8 = 0 then
    nm (zw_wr σ 0 8 0) fun s2 =>
    some (0, s2)
  else
    nm (zw_wr σ 0 8 0) fun s3 =>
    some (1, s3)
-- X6_count
def m_X6_count (σ : zw_S) (x1 : Int32) : Option (Int32 × zw_S) :=
  if x1 = 0 then
    some (σ 1 0, σ)
  else
    if x1 = 1 then
      some (σ 1 2, σ)
    else
      if x1 = 2 then
        cl (m_X0_endedTasks 1 σ) fun r5 s4 =>
        some ((σ 1 2) - r5, s4)
      else
        if x1 = 3 then
          some (σ 1 3, σ)
        else
          if x1 = 4 then
            cl (m_X0_endedWorth 1 σ) fun r9 s8 =>
            some (r9, s8)
          else
            if x1 = 5 then
              cl (m_X0_hoursOfAll 1 σ) fun r12 s11 =>
              some (r12, s11)
            else
              if x1 = 6 then
                some (σ 45 1, σ)
              else
                if x1 = 7 then
                  some (σ 1 1, σ)
                else
                  cl (m_X6_found σ (-1000001)) fun r16 s15 =>
                  some (r16, s15)
-- X6_status
def m_X6_status_32 : Nat → zw_S → Int32 → Int32 → Option (Int32 × zw_S)
  | 0, _, _, _ => none
  | n + 1, σ, x2, x3 =>
    if 7 ≤ x3 then
      some (x2, σ)
    else
      rd σ 56 7 x3 fun v2 =>
      nm (x2 + v2) fun v3 =>
      nm (x3 + 1) fun v4 =>
      m_X6_status_32 n σ v3 v4
def m_X6_status (σ : zw_S) (x1 : Int32) : Option (Int32 × zw_S) :=
  cl (m_X6_isIn σ x1 (-1) 6) fun r2 s1 =>
  if r2 = 0 then
    cl (m_X6_found s1 (-1000001)) fun r7 s6 =>
    some (r7, s6)
  else
    if x1 < 0 then
      m_X6_status_32 200 s1 0 0
    else
      rd s1 56 7 x1 fun v5 =>
      some (v5, s1)
-- X7_finds
def m_X7_finds (σ : zw_S) (x1 : Int32) : Option (Int32 × zw_S) :=
  nm ((-1000001) - x1) fun v1 =>
  rd σ 62 7 v1 fun v2 =>
  wt σ 62 7 v1 (v2 + 1) fun s3 =>
  some (x1, s3)
-- X7_orNone
def m_X7_orNone (σ : zw_S) (x1 : Int32) : Option (Int32 × zw_S) :=
  if 0 ≤ x1 then
    some (x1, σ)
  else
    cl (m_X7_finds σ (-1000004)) fun r3 s2 =>
    some (r3, s2)
-- X7_in
def m_X7_in (σ : zw_S) (x0 : Int64) (x2 : Int64) (x4 : Int64) : Option (Int32 × zw_S) :=
  if lg_cmp x0 x2 < 0 then
    some (0, σ)
  else
    if 0 < lg_cmp x0 x4 then
      some (0, σ)
    else
      some (1, σ)
-- X7_held
def m_X7_held (σ : zw_S) (x0 : Int32) : Option (Int32 × zw_S) :=
  if 0 ≤ x0 then
    if x0 ≤ 999 then
      some (x0, σ)
    else
      some (999, σ)
  else
    some (0, σ)
-- X7_row
def m_X7_row_2 (a : Nat) (b : Nat) : Nat → zw_S → Int32 → Option zw_S
  | 0, _, _ => none
  | n + 1, σ, x2 =>
    if 142 ≤ x2 then
      some σ
    else
      rd σ a 142 x2 fun v2 =>
      wt σ b 142 x2 v2 fun s3 =>
      nm (x2 + 1) fun v4 =>
      m_X7_row_2 a b n s3 v4
def m_X7_row (a : Nat) (b : Nat) (σ : zw_S) : Option zw_S :=
  m_X7_row_2 a b 200 σ 0
-- X7_becomes
def m_X7_becomes (σ : zw_S) (x1 : Int32) (x2 : Int32) : Option (Int32 × zw_S) :=
  rd σ 58 142 x1 fun v1 =>
  wt σ 58 142 x1 x2 fun s2 =>
  some (v1, s2)
-- X7_isName
def m_X7_isName (σ : zw_S) (x0 : Int32) : Option (Int32 × zw_S) :=
  cl (m_X7_in σ x0.toInt64 0 7) fun r2 s1 =>
  tt (zz r2) <|
  some (r2, s1)
-- X7_isTask
def m_X7_isTask (σ : zw_S) (x1 : Int32) : Option (Int32 × zw_S) :=
  rd σ 58 142 2 fun v1 =>
  cl (m_X7_in σ x1.toInt64 0 ((v1 - 1).toInt64)) fun r3 s2 =>
  tt (zz r3) <|
  some (r3, s2)
-- X7_isPerson
def m_X7_isPerson (σ : zw_S) (x1 : Int32) : Option (Int32 × zw_S) :=
  rd σ 58 142 3 fun v1 =>
  cl (m_X7_in σ x1.toInt64 0 ((v1 - 1).toInt64)) fun r3 s2 =>
  tt (zz r3) <|
  some (r3, s2)
-- X7_isKind
def m_X7_isKind (σ : zw_S) (x0 : Int32) : Option (Int32 × zw_S) :=
  cl (m_X7_in σ x0.toInt64 0 6) fun r2 s1 =>
  tt (zz r2) <|
  some (r2, s1)
-- X7_areHands
def m_X7_areHands (σ : zw_S) (x0 : Int32) : Option (Int32 × zw_S) :=
  cl (m_X7_in σ x0.toInt64 1 9) fun r2 s1 =>
  tt (zz r2) <|
  some (r2, s1)
-- X7_task0
def m_X7_task0 (σ : zw_S) (x1 : Int32) (x2 : Int32) : Option (Int32 × zw_S) :=
  rd σ 58 142 ((20 + (4 * x1)) + x2) fun v1 =>
  some (v1, σ)
-- X7_person0
def m_X7_person0 (σ : zw_S) (x1 : Int32) (x2 : Int32) : Option (Int32 × zw_S) :=
  rd σ 58 142 ((100 + (4 * x1)) + x2) fun v1 =>
  some (v1, σ)
-- X7_isEnded
def m_X7_isEnded (σ : zw_S) (x1 : Int32) : Option (Int32 × zw_S) :=
  cl (m_X7_task0 σ x1 2) fun r2 s1 =>
  if r2 = 0 then
    some (1, s1)
  else
    some (0, s1)
-- X7_bearer
def m_X7_bearer_2 : Nat → zw_S → Int32 → Int32 → Option (Int32 × zw_S)
  | 0, _, _, _ => none
  | n + 1, σ, x1, x2 =>
    rd σ 58 142 3 fun v1 =>
    if v1 ≤ x2 then
      some ((-1), σ)
    else
      cl (m_X7_person0 σ x2 0) fun r4 s3 =>
      if r4 = x1 then
        some (x2, s3)
      else
        nm (x2 + 1) fun v6 =>
        m_X7_bearer_2 n s3 x1 v6
def m_X7_bearer (σ : zw_S) (x1 : Int32) : Option (Int32 × zw_S) :=
  m_X7_bearer_2 200 σ x1 0
-- X7_worth
def m_X7_worth (σ : zw_S) (x1 : Int32) (x2 : Int32) : Option (Int32 × zw_S) :=
  cl (m_X7_isName σ x1) fun r2 s1 =>
  if r2 = 0 then
    cl (m_X7_finds s1 (-1000001)) fun r5 s4 =>
    some (r5, s4)
  else
    cl (m_X7_in s1 x2.toInt64 0 99) fun r7 s6 =>
    if r7 = 0 then
      cl (m_X7_finds s6 (-1000001)) fun r10 s9 =>
      some (r10, s9)
    else
      cl (m_X7_becomes s6 (4 + (2 * x1)) x2) fun r12 s11 =>
      some (r12, s11)
-- X7_comes
def m_X7_comes (σ : zw_S) (x1 : Int32) (x2 : Int32) (x3 : Int32) (x4 : Int32) : Option zw_S :=
  rd σ 58 142 2 fun v1 =>
  nm (20 + (4 * v1)) fun v2 =>
  wt σ 58 142 v2 x1 fun s3 =>
  wt s3 58 142 (v2 + 1) x2 fun s4 =>
  wt s4 58 142 (v2 + 2) x3 fun s5 =>
  wt s5 58 142 (v2 + 3) x4 fun s6 =>
  rd s6 58 142 2 fun v7 =>
  wt s6 58 142 2 (v7 + 1) fun s8 =>
  some s8
-- X7_task
def m_X7_task (σ : zw_S) (x1 : Int32) (x2 : Int32) (x3 : Int32) : Option (Int32 × zw_S) :=
  cl (m_X7_isKind σ x1) fun r2 s1 =>
  if r2 = 0 then
    cl (m_X7_finds s1 (-1000001)) fun r5 s4 =>
    some (r5, s4)
  else
    cl (m_X7_isName s1 x2) fun r7 s6 =>
    if r7 = 0 then
      cl (m_X7_finds s6 (-1000001)) fun r10 s9 =>
      some (r10, s9)
    else
      cl (m_X7_in s6 x3.toInt64 1 999) fun r12 s11 =>
      if r12 = 0 then
        cl (m_X7_finds s11 (-1000001)) fun r21 s20 =>
        some (r21, s20)
      else
        rd s11 58 142 2 fun v14 =>
        if v14 = 20 then
          cl (m_X7_finds s11 (-1000002)) fun r19 s18 =>
          some (r19, s18)
        else
          cv (m_X7_comes s11 x1 x2 x3 (-1)) fun s16 =>
          rd s16 58 142 2 fun v17 =>
          some (v17 - 1, s16)
-- X7_grows
def m_X7_grows (σ : zw_S) (x1 : Int32) : Option (Int32 × zw_S) :=
  cl (m_X7_isEnded σ x1) fun r2 s1 =>
  if r2 = 0 then
    cl (m_X7_task0 s1 x1 0) fun r5 s4 =>
    cl (m_X7_task0 s4 x1 2) fun r7 s6 =>
    nm (r7 / 10) fun v8 =>
    if r5 = 2 then
      some (v8, s6)
    else
      if r5 = 3 then
        some (v8 + 1, s6)
      else
        if r5 = 6 then
          rd s6 58 142 0 fun v12 =>
          if v12 - v12 / 2 * 2 = 0 then
            some (1, s6)
          else
            some (0, s6)
        else
          some (0, s6)
  else
    some (0, s1)
-- X7_waitsFor
def m_X7_waitsFor (σ : zw_S) (x1 : Int32) : Option (Int32 × zw_S) :=
  cl (m_X7_task0 σ x1 3) fun r2 s1 =>
  cl (m_X7_isEnded s1 x1) fun r4 s3 =>
  if r4 = 0 then
    if r2 < 0 then
      some ((-1), s3)
    else
      cl (m_X7_isEnded s3 r2) fun r8 s7 =>
      if r8 = 0 then
        some (r2, s7)
      else
        some ((-1), s7)
  else
    some ((-1), s3)
-- X7_comesTo
def m_X7_comesTo_5 : Nat → zw_S → Int32 → Int32 → Int32 → Option (Int32 × zw_S)
  | 0, _, _, _, _ => none
  | n + 1, σ, x2, x3, x4 =>
    if 20 ≤ x4 then
      some (0, σ)
    else
      if x3 < 0 then
        some (0, σ)
      else
        cl (m_X7_waitsFor σ x3) fun r4 s3 =>
        if r4 = x2 then
          some (1, s3)
        else
          nm (x4 + 1) fun v6 =>
          m_X7_comesTo_5 n s3 x2 r4 v6
def m_X7_comesTo (σ : zw_S) (x1 : Int32) (x2 : Int32) : Option (Int32 × zw_S) :=
  m_X7_comesTo_5 200 σ x2 x1 0
-- X7_taskOf
def m_X7_taskOf (σ : zw_S) (x1 : Int32) (x2 : Int32) : Option (Int32 × zw_S) :=
  cl (m_X7_isTask σ x1) fun r2 s1 =>
  if r2 = 0 then
    cl (m_X7_finds s1 (-1000001)) fun r5 s4 =>
    some (r5, s4)
  else
    cl (m_X7_in s1 x2.toInt64 0 5) fun r7 s6 =>
    if r7 = 0 then
      cl (m_X7_finds s6 (-1000001)) fun r19 s18 =>
      some (r19, s18)
    else
      if 4 ≤ x2 then
        if x2 = 4 then
          cl (m_X7_grows s6 x1) fun r15 s14 =>
          some (r15, s14)
        else
          cl (m_X7_comesTo s6 x1 x1) fun r12 s11 =>
          if r12 = 0 then
            some (0, s11)
          else
            some (1, s11)
      else
        cl (m_X7_task0 s6 x1 x2) fun r17 s16 =>
        some (r17, s16)
-- X7_turn
def m_X7_turn (σ : zw_S) (x1 : Int32) (x2 : Int32) : Option (Int32 × zw_S) :=
  cl (m_X7_isTask σ x1) fun r2 s1 =>
  if r2 = 0 then
    cl (m_X7_finds s1 (-1000001)) fun r5 s4 =>
    some (r5, s4)
  else
    cl (m_X7_isKind s1 x2) fun r7 s6 =>
    if r7 = 0 then
      cl (m_X7_finds s6 (-1000001)) fun r10 s9 =>
      some (r10, s9)
    else
      cl (m_X7_becomes s6 (20 + (4 * x1)) x2) fun r12 s11 =>
      some (r12, s11)
-- X7_needs
def m_X7_needs_31 (σ : zw_S) (x1 : Int32) (x2 : Int32) (y0 : Int32) : Option (Int32 × zw_S) :=
  if y0 = 0 then
    cl (m_X7_finds σ (-1000001)) fun r3 s2 =>
    some (r3, s2)
  else
    cl (m_X7_becomes σ ((20 + (4 * x1)) + 3) x2) fun r5 s4 =>
    some (r5, s4)
def m_X7_needs (σ : zw_S) (x1 : Int32) (x2 : Int32) : Option (Int32 × zw_S) :=
  cl (m_X7_isTask σ x1) fun r2 s1 =>
  if r2 = 0 then
    m_X7_needs_31 s1 x1 x2 0
  else
    if x2 = (-1) then
      m_X7_needs_31 s1 x1 x2 1
    else
      cl (m_X7_isTask s1 x2) fun r6 s5 =>
      if r6 = 0 then
        m_X7_needs_31 s5 x1 x2 0
      else
        if x2 = x1 then
          m_X7_needs_31 s5 x1 x2 0
        else
          m_X7_needs_31 s5 x1 x2 1
-- X7_strike
def m_X7_strike (σ : zw_S) (x1 : Int32) : Option (Int32 × zw_S) :=
  cl (m_X7_isTask σ x1) fun r2 s1 =>
  if r2 = 0 then
    cl (m_X7_finds s1 (-1000001)) fun r5 s4 =>
    some (r5, s4)
  else
    cl (m_X7_becomes s1 ((20 + (4 * x1)) + 2) 0) fun r7 s6 =>
    some (r7, s6)
-- X7_isOpen
def m_X7_isOpen_2 : Nat → zw_S → Int32 → Int32 → Option (Int32 × zw_S)
  | 0, _, _, _ => none
  | n + 1, σ, x1, x2 =>
    rd σ 58 142 2 fun v1 =>
    if v1 ≤ x2 then
      some (0, σ)
    else
      cl (m_X7_task0 σ x2 1) fun r4 s3 =>
      if r4 = x1 then
        cl (m_X7_isEnded s3 x2) fun r8 s7 =>
        if r8 = 0 then
          some (1, s7)
        else
          nm (x2 + 1) fun v10 =>
          m_X7_isOpen_2 n s7 x1 v10
      else
        nm (x2 + 1) fun v6 =>
        m_X7_isOpen_2 n s3 x1 v6
def m_X7_isOpen (σ : zw_S) (x1 : Int32) : Option (Int32 × zw_S) :=
  m_X7_isOpen_2 200 σ x1 0
-- X7_atHand
def m_X7_atHand_2 : Nat → zw_S → Int32 → Int32 → Option (Int32 × zw_S)
  | 0, _, _, _ => none
  | n + 1, σ, x1, x2 =>
    rd σ 58 142 2 fun v1 =>
    if v1 ≤ x2 then
      some ((-1), σ)
    else
      cl (m_X7_task0 σ x2 1) fun r4 s3 =>
      if r4 = x1 then
        cl (m_X7_isEnded s3 x2) fun r8 s7 =>
        if r8 = 0 then
          cl (m_X7_waitsFor s7 x2) fun r12 s11 =>
          if 0 ≤ r12 then
            nm (x2 + 1) fun v14 =>
            m_X7_atHand_2 n s11 x1 v14
          else
            some (x2, s11)
        else
          nm (x2 + 1) fun v10 =>
          m_X7_atHand_2 n s7 x1 v10
      else
        nm (x2 + 1) fun v6 =>
        m_X7_atHand_2 n s3 x1 v6
def m_X7_atHand (σ : zw_S) (x1 : Int32) : Option (Int32 × zw_S) :=
  m_X7_atHand_2 200 σ x1 0
-- X7_sumOf
def m_X7_sumOf_5 : Nat → zw_S → Int32 → Int32 → Int32 → Int32 → Option (Int32 × zw_S)
  | 0, _, _, _, _, _ => none
  | n + 1, σ, x1, x2, x3, x4 =>
    rd σ 58 142 2 fun v1 =>
    if v1 ≤ x4 then
      some (x3, σ)
    else
      cl (m_X7_task0 σ x4 1) fun r4 s3 =>
      if r4 = x1 then
        if x2 = 0 then
          nm (x3 + 1) fun v7 =>
          nm (x4 + 1) fun v8 =>
          m_X7_sumOf_5 n s3 x1 x2 v7 v8
        else
          cl (m_X7_task0 s3 x4 2) fun r10 s9 =>
          nm (x3 + r10) fun v11 =>
          nm (x4 + 1) fun v12 =>
          m_X7_sumOf_5 n s9 x1 x2 v11 v12
      else
        nm (x3 + 0) fun v13 =>
        nm (x4 + 1) fun v14 =>
        m_X7_sumOf_5 n s3 x1 x2 v13 v14
def m_X7_sumOf (σ : zw_S) (x1 : Int32) (x2 : Int32) : Option (Int32 × zw_S) :=
  m_X7_sumOf_5 200 σ x1 x2 0 0
-- X7_nameOf
def m_X7_nameOf (σ : zw_S) (x1 : Int32) (x2 : Int32) : Option (Int32 × zw_S) :=
  cl (m_X7_isName σ x1) fun r2 s1 =>
  if r2 = 0 then
    cl (m_X7_finds s1 (-1000001)) fun r5 s4 =>
    some (r5, s4)
  else
    cl (m_X7_in s1 x2.toInt64 0 6) fun r7 s6 =>
    if r7 = 0 then
      cl (m_X7_finds s6 (-1000001)) fun r29 s28 =>
      some (r29, s28)
    else
      if x2 = 0 then
        rd s6 58 142 (4 + (2 * x1)) fun v10 =>
        some (v10, s6)
      else
        if x2 = 1 then
          cl (m_X7_isOpen s6 x1) fun r13 s12 =>
          if r13 = 0 then
            some (0, s12)
          else
            some (1, s12)
        else
          if x2 = 2 then
            cl (m_X7_bearer s6 x1) fun r17 s16 =>
            some (r17, s16)
          else
            if x2 = 3 then
              cl (m_X7_sumOf s6 x1 0) fun r20 s19 =>
              some (r20, s19)
            else
              if x2 = 4 then
                cl (m_X7_sumOf s6 x1 1) fun r23 s22 =>
                some (r23, s22)
              else
                if x2 = 5 then
                  cl (m_X7_atHand s6 x1) fun r26 s25 =>
                  some (r26, s25)
                else
                  rd s6 58 142 ((4 + (2 * x1)) + 1) fun v27 =>
                  some (v27, s6)
-- X7_rings
def m_X7_rings_4 : Nat → zw_S → Int32 → Int32 → Option (Int32 × zw_S)
  | 0, _, _, _ => none
  | n + 1, σ, x1, x2 =>
    rd σ 58 142 2 fun v1 =>
    if v1 ≤ x2 then
      some (x1, σ)
    else
      cl (m_X7_comesTo σ x2 x2) fun r4 s3 =>
      if r4 = 0 then
        nm (x1 ||| 0) fun v6 =>
        nm (x2 + 1) fun v7 =>
        m_X7_rings_4 n s3 v6 v7
      else
        nm (x1 ||| (1 <<< (x2 &&& 31))) fun v8 =>
        nm (x2 + 1) fun v9 =>
        m_X7_rings_4 n s3 v8 v9
def m_X7_rings (σ : zw_S) : Option (Int32 × zw_S) :=
  m_X7_rings_4 200 σ 0 0
-- X7_waits
def m_X7_waits_19 : Nat → zw_S → Int32 → Int32 → Int32 → Option (Int32 × zw_S)
  | 0, _, _, _, _ => none
  | n + 1, σ, x1, x2, x3 =>
    rd σ 58 142 2 fun v1 =>
    if v1 ≤ x3 then
      some (x2, σ)
    else
      cl (m_X7_comesTo σ x3 x1) fun r4 s3 =>
      if r4 = 0 then
        nm (x2 ||| 0) fun v6 =>
        nm (x3 + 1) fun v7 =>
        m_X7_waits_19 n s3 x1 v6 v7
      else
        nm (x2 ||| (1 <<< (x3 &&& 31))) fun v8 =>
        nm (x3 + 1) fun v9 =>
        m_X7_waits_19 n s3 x1 v8 v9
def m_X7_waits (σ : zw_S) (x1 : Int32) : Option (Int32 × zw_S) :=
  cl (m_X7_isTask σ x1) fun r2 s1 =>
  if r2 = 0 then
    cl (m_X7_finds s1 (-1000001)) fun r5 s4 =>
    some (r5, s4)
  else
    m_X7_waits_19 200 s1 x1 0 0
-- X7_isBorn
def m_X7_isBorn (σ : zw_S) (x1 : Int32) (x2 : Int32) (x3 : Int32) : Option zw_S :=
  rd σ 58 142 3 fun v1 =>
  nm (100 + (4 * v1)) fun v2 =>
  wt σ 58 142 v2 x3 fun s3 =>
  wt s3 58 142 (v2 + 1) x2 fun s4 =>
  wt s4 58 142 (v2 + 2) x1 fun s5 =>
  wt s5 58 142 (v2 + 3) (-1) fun s6 =>
  rd s6 58 142 3 fun v7 =>
  wt s6 58 142 3 (v7 + 1) fun s8 =>
  some s8
-- X7_person
def m_X7_person (σ : zw_S) (x1 : Int32) : Option (Int32 × zw_S) :=
  cl (m_X7_areHands σ x1) fun r2 s1 =>
  if r2 = 0 then
    cl (m_X7_finds s1 (-1000001)) fun r11 s10 =>
    some (r11, s10)
  else
    rd s1 58 142 3 fun v4 =>
    if v4 = 8 then
      cl (m_X7_finds s1 (-1000002)) fun r9 s8 =>
      some (r9, s8)
    else
      cv (m_X7_isBorn s1 x1 0 (-1)) fun s6 =>
      rd s6 58 142 3 fun v7 =>
      some (v7 - 1, s6)
-- X7_of
def m_X7_of (σ : zw_S) (x1 : Int32) (x2 : Int32) : Option (Int32 × zw_S) :=
  cl (m_X7_isPerson σ x1) fun r2 s1 =>
  if r2 = 0 then
    cl (m_X7_finds s1 (-1000001)) fun r5 s4 =>
    some (r5, s4)
  else
    cl (m_X7_in s1 x2.toInt64 0 3) fun r7 s6 =>
    if r7 = 0 then
      cl (m_X7_finds s6 (-1000001)) fun r10 s9 =>
      some (r10, s9)
    else
      cl (m_X7_person0 s6 x1 x2) fun r12 s11 =>
      some (r12, s11)
-- X7_change
def m_X7_change_34 (σ : zw_S) (x1 : Int32) (x2 : Int32) (x3 : Int32) (y0 : Int32) : Option (Int32 × zw_S) :=
  cl (m_X7_isPerson σ x1) fun r2 s1 =>
  if r2 = 0 then
    cl (m_X7_finds s1 (-1000001)) fun r5 s4 =>
    some (r5, s4)
  else
    if y0 = 0 then
      cl (m_X7_finds s1 (-1000001)) fun r8 s7 =>
      some (r8, s7)
    else
      cl (m_X7_becomes s1 ((100 + (4 * x1)) + x2) x3) fun r10 s9 =>
      some (r10, s9)
def m_X7_change (σ : zw_S) (x1 : Int32) (x2 : Int32) (x3 : Int32) : Option (Int32 × zw_S) :=
  if x2 = 1 then
    cl (m_X7_in σ x3.toInt64 0 39) fun r7 s6 =>
    m_X7_change_34 s6 x1 x2 x3 r7
  else
    if x2 = 2 then
      cl (m_X7_areHands σ x3) fun r4 s3 =>
      if r4 = 0 then
        m_X7_change_34 s3 x1 x2 x3 0
      else
        m_X7_change_34 s3 x1 x2 x3 1
    else
      m_X7_change_34 σ x1 x2 x3 0
-- X7_helps
def m_X7_helps_31 (σ : zw_S) (x1 : Int32) (x2 : Int32) (y0 : Int32) : Option (Int32 × zw_S) :=
  if y0 = 0 then
    cl (m_X7_finds σ (-1000001)) fun r3 s2 =>
    some (r3, s2)
  else
    cl (m_X7_becomes σ ((100 + (4 * x1)) + 3) x2) fun r5 s4 =>
    some (r5, s4)
def m_X7_helps (σ : zw_S) (x1 : Int32) (x2 : Int32) : Option (Int32 × zw_S) :=
  cl (m_X7_isPerson σ x1) fun r2 s1 =>
  if r2 = 0 then
    m_X7_helps_31 s1 x1 x2 0
  else
    if x2 = (-1) then
      m_X7_helps_31 s1 x1 x2 1
    else
      cl (m_X7_isPerson s1 x2) fun r6 s5 =>
      if r6 = 0 then
        m_X7_helps_31 s5 x1 x2 0
      else
        if x2 = x1 then
          m_X7_helps_31 s5 x1 x2 0
        else
          m_X7_helps_31 s5 x1 x2 1
-- X7_wrongTake
def m_X7_wrongTake_44 (σ : zw_S) (x1 : Int32) : Option (Int32 × zw_S) :=
  cl (m_X7_person0 σ x1 1) fun r2 s1 =>
  if r2 = 40 then
    some ((-1000005), s1)
  else
    some (0, s1)
def m_X7_wrongTake_23 (σ : zw_S) (x1 : Int32) (x2 : Int32) : Option (Int32 × zw_S) :=
  if 0 ≤ x2 then
    cl (m_X7_bearer σ x2) fun r3 s2 =>
    if r3 < 0 then
      m_X7_wrongTake_44 s2 x1
    else
      if r3 = x1 then
        m_X7_wrongTake_44 s2 x1
      else
        some ((-1000005), s2)
  else
    some (0, σ)
def m_X7_wrongTake (σ : zw_S) (x1 : Int32) (x2 : Int32) : Option (Int32 × zw_S) :=
  cl (m_X7_isPerson σ x1) fun r2 s1 =>
  if r2 = 0 then
    some ((-1000001), s1)
  else
    if x2 = (-1) then
      m_X7_wrongTake_23 s1 x1 x2
    else
      cl (m_X7_isName s1 x2) fun r6 s5 =>
      if r6 = 0 then
        some ((-1000001), s5)
      else
        m_X7_wrongTake_23 s5 x1 x2
-- X7_take
def m_X7_take (σ : zw_S) (x1 : Int32) (x2 : Int32) : Option (Int32 × zw_S) :=
  cl (m_X7_wrongTake σ x1 x2) fun r2 s1 =>
  if 0 ≤ r2 then
    cl (m_X7_becomes s1 (100 + (4 * x1)) x2) fun r5 s4 =>
    some (r5, s4)
  else
    cl (m_X7_finds s1 r2) fun r7 s6 =>
    some (r7, s6)
-- X7_exchange
def m_X7_exchange (σ : zw_S) (x1 : Int32) (x2 : Int32) : Option (Int32 × zw_S) :=
  cl (m_X7_isPerson σ x1) fun r2 s1 =>
  if r2 = 0 then
    cl (m_X7_finds s1 (-1000001)) fun r5 s4 =>
    some (r5, s4)
  else
    cl (m_X7_isPerson s1 x2) fun r7 s6 =>
    if r7 = 0 then
      cl (m_X7_finds s6 (-1000001)) fun r10 s9 =>
      some (r10, s9)
    else
      if x1 = x2 then
        cl (m_X7_finds s6 (-1000001)) fun r28 s27 =>
        some (r28, s27)
      else
        cl (m_X7_person0 s6 x1 1) fun r13 s12 =>
        if r13 = 40 then
          cl (m_X7_finds s12 (-1000005)) fun r16 s15 =>
          some (r16, s15)
        else
          cl (m_X7_person0 s12 x2 1) fun r18 s17 =>
          if r18 = 40 then
            cl (m_X7_finds s17 (-1000005)) fun r26 s25 =>
            some (r26, s25)
          else
            cl (m_X7_person0 s17 x2 0) fun r21 s20 =>
            cl (m_X7_becomes s20 (100 + (4 * x1)) r21) fun r23 s22 =>
            wt s22 58 142 (100 + (4 * x2)) r23 fun s24 =>
            some (1, s24)
-- X7_draw
def m_X7_draw (σ : zw_S) : Option (Int32 × zw_S) :=
  rd σ 58 142 1 fun v1 =>
  wt σ 58 142 1 ((v1 * 1103515245) + 12345) fun s2 =>
  rd s2 58 142 1 fun v3 =>
  some (zush v3 8, s2)
-- X7_born
def m_X7_born_58 (σ : zw_S) : Option (Int32 × zw_S) :=
  rd σ 58 142 3 fun v1 =>
  some (v1, σ)
def m_X7_born_21 : Nat → zw_S → Int32 → Int32 → Option (Int32 × zw_S)
  | 0, _, _, _ => none
  | n + 1, σ, x1, x2 =>
    if x1 ≤ x2 then
      m_X7_born_58 σ
    else
      rd σ 58 142 3 fun v2 =>
      if 8 ≤ v2 then
        m_X7_born_58 σ
      else
        cl (m_X7_draw σ) fun r5 s4 =>
        cv (m_X7_isBorn s4 ((r5 - r5 / 9 * 9) + 1) 0 (-1)) fun s6 =>
        nm (x2 + 1) fun v7 =>
        m_X7_born_21 n s6 x1 v7
def m_X7_born (σ : zw_S) (x1 : Int32) : Option (Int32 × zw_S) :=
  cl (m_X7_in σ x1.toInt64 1 8) fun r2 s1 =>
  if r2 = 0 then
    cl (m_X7_finds s1 (-1000001)) fun r5 s4 =>
    some (r5, s4)
  else
    m_X7_born_21 200 s1 x1 0
-- X7_isBorneThere
def m_X7_isBorneThere (σ : zw_S) (x1 : Int32) : Option (Int32 × zw_S) :=
  cl (m_X7_task0 σ x1 3) fun r2 s1 =>
  if r2 < 0 then
    some (1, s1)
  else
    cl (m_X7_task0 s1 r2 1) fun r5 s4 =>
    cl (m_X7_bearer s4 r5) fun r7 s6 =>
    if r7 < 0 then
      some (0, s6)
    else
      some (1, s6)
-- X7_work
def m_X7_work_19 (σ : zw_S) (x1 : Int32) (x2 : Int32) (y0 : Int32) : Option (Int32 × zw_S) :=
  cl (m_X7_task0 σ x1 0) fun r2 s1 =>
  if r2 = 1 then
    some (y0, s1)
  else
    if r2 = 2 then
      some (x2, s1)
    else
      if r2 = 3 then
        cl (m_X7_isBorneThere s1 x1) fun r7 s6 =>
        if r7 = 0 then
          some (0, s6)
        else
          some (x2, s6)
      else
        if r2 = 4 then
          some (2 * x2, s1)
        else
          if r2 = 5 then
            some ((2 * x2) + 1, s1)
          else
            if r2 = 6 then
              if 1 ≤ y0 then
                some (y0 - 1, s1)
              else
                some (0, s1)
            else
              some (x2, s1)
def m_X7_work (σ : zw_S) (x1 : Int32) (x2 : Int32) : Option (Int32 × zw_S) :=
  rd σ 58 142 0 fun v1 =>
  if v1 - v1 / 2 * 2 = 1 then
    m_X7_work_19 σ x1 x2 (x2 / 2)
  else
    m_X7_work_19 σ x1 x2 x2
-- X7_does
def m_X7_does (σ : zw_S) (x1 : Int32) (x2 : Int32) : Option zw_S :=
  cl (m_X7_atHand σ x1) fun r2 s1 =>
  if r2 < 0 then
    some s1
  else
    cl (m_X7_task0 s1 r2 2) fun r5 s4 =>
    cl (m_X7_work s4 r2 x2) fun r7 s6 =>
    cl (m_X7_held s6 (r5 - r7)) fun r9 s8 =>
    wt s8 58 142 ((20 + (4 * r2)) + 2) r9 fun s10 =>
    some s10
-- X7_isFree
def m_X7_isFree (σ : zw_S) (x1 : Int32) : Option (Int32 × zw_S) :=
  cl (m_X7_person0 σ x1 0) fun r2 s1 =>
  if r2 < 0 then
    some (1, s1)
  else
    cl (m_X7_atHand s1 r2) fun r5 s4 =>
    if 0 ≤ r5 then
      some (0, s4)
    else
      some (1, s4)
-- X7_helpsNow
def m_X7_helpsNow (σ : zw_S) (x1 : Int32) : Option zw_S :=
  cl (m_X7_person0 σ x1 3) fun r2 s1 =>
  if r2 < 0 then
    some s1
  else
    cl (m_X7_person0 s1 r2 0) fun r5 s4 =>
    if r5 < 0 then
      some s4
    else
      cl (m_X7_isFree s4 x1) fun r8 s7 =>
      if r8 = 0 then
        some s7
      else
        cl (m_X7_person0 s7 r2 0) fun r11 s10 =>
        cl (m_X7_person0 s10 x1 2) fun r13 s12 =>
        cv (m_X7_does s12 r11 (r13 / 2)) fun s14 =>
        some s14
-- X7_leaves
def m_X7_leaves (σ : zw_S) (x1 : Int32) : Option zw_S :=
  cl (m_X7_becomes σ (100 + (4 * x1)) (-1)) fun r2 s1 =>
  nm ((4 + (2 * r2)) + 1) fun v3 =>
  rd s1 58 142 v3 fun v4 =>
  wt s1 58 142 v3 (v4 + 1) fun s5 =>
  cl (m_X7_isOpen s5 r2) fun r7 s6 =>
  if r7 = 0 then
    some s6
  else
    rd s6 58 142 2 fun v9 =>
    if 20 ≤ v9 then
      some s6
    else
      cv (m_X7_comes s6 0 r2 5 (-1)) fun s11 =>
      some s11
-- X7_year
def m_X7_year_227 (σ : zw_S) : Option zw_S :=
  rd σ 58 142 0 fun v1 =>
  wt σ 58 142 0 (v1 + 1) fun s2 =>
  some s2
def m_X7_year_186 : Nat → zw_S → Int32 → Option zw_S
  | 0, _, _ => none
  | n + 1, σ, x1 =>
    rd σ 58 142 3 fun v1 =>
    if v1 ≤ x1 then
      m_X7_year_227 σ
    else
      cl (m_X7_person0 σ x1 1) fun r4 s3 =>
      if r4 = 40 then
        cl (m_X7_person0 s3 x1 0) fun r8 s7 =>
        if r8 < 0 then
          nm (x1 + 1) fun v10 =>
          m_X7_year_186 n s7 v10
        else
          cv (m_X7_leaves s7 x1) fun s11 =>
          nm (x1 + 1) fun v12 =>
          m_X7_year_186 n s11 v12
      else
        nm (x1 + 1) fun v6 =>
        m_X7_year_186 n s3 v6
def m_X7_year_136 : Nat → zw_S → Int32 → Option zw_S
  | 0, _, _ => none
  | n + 1, σ, x1 =>
    rd σ 58 142 3 fun v1 =>
    if v1 ≤ x1 then
      m_X7_year_186 200 σ 0
    else
      nm ((100 + (4 * x1)) + 1) fun v3 =>
      rd σ 58 142 v3 fun v4 =>
      cl (m_X7_person0 σ x1 1) fun r6 s5 =>
      if 40 ≤ r6 then
        wt s5 58 142 v3 (v4 + 0) fun s8 =>
        nm (x1 + 1) fun v9 =>
        m_X7_year_136 n s8 v9
      else
        wt s5 58 142 v3 (v4 + 1) fun s10 =>
        nm (x1 + 1) fun v11 =>
        m_X7_year_136 n s10 v11
def m_X7_year_90 : Nat → zw_S → Int32 → Option zw_S
  | 0, _, _ => none
  | n + 1, σ, x1 =>
    rd σ 58 142 2 fun v1 =>
    if v1 ≤ x1 then
      m_X7_year_136 200 σ 0
    else
      cl (m_X7_task0 σ x1 2) fun r4 s3 =>
      cl (m_X7_grows s3 x1) fun r6 s5 =>
      cl (m_X7_held s5 (r4 + r6)) fun r8 s7 =>
      wt s7 58 142 ((20 + (4 * x1)) + 2) r8 fun s9 =>
      nm (x1 + 1) fun v10 =>
      m_X7_year_90 n s9 v10
def m_X7_year_56 : Nat → zw_S → Int32 → Option zw_S
  | 0, _, _ => none
  | n + 1, σ, x1 =>
    rd σ 58 142 3 fun v1 =>
    if v1 ≤ x1 then
      m_X7_year_90 200 σ 0
    else
      cl (m_X7_person0 σ x1 1) fun r4 s3 =>
      if r4 < 7 then
        nm (x1 + 1) fun v6 =>
        m_X7_year_56 n s3 v6
      else
        cv (m_X7_helpsNow s3 x1) fun s7 =>
        nm (x1 + 1) fun v8 =>
        m_X7_year_56 n s7 v8
def m_X7_year_2 : Nat → zw_S → Int32 → Option zw_S
  | 0, _, _ => none
  | n + 1, σ, x1 =>
    rd σ 58 142 3 fun v1 =>
    if v1 ≤ x1 then
      m_X7_year_56 200 σ 0
    else
      cl (m_X7_person0 σ x1 1) fun r4 s3 =>
      if r4 < 7 then
        nm (x1 + 1) fun v6 =>
        m_X7_year_2 n s3 v6
      else
        cl (m_X7_person0 s3 x1 0) fun r8 s7 =>
        if r8 < 0 then
          nm (x1 + 1) fun v10 =>
          m_X7_year_2 n s7 v10
        else
          cl (m_X7_person0 s7 x1 0) fun r12 s11 =>
          cl (m_X7_person0 s11 x1 2) fun r14 s13 =>
          cv (m_X7_does s13 r12 r14) fun s15 =>
          nm (x1 + 1) fun v16 =>
          m_X7_year_2 n s15 v16
def m_X7_year (σ : zw_S) : Option zw_S :=
  m_X7_year_2 200 σ 0
-- X7_unended
def m_X7_unended_4 : Nat → zw_S → Int32 → Int32 → Option (Int32 × zw_S)
  | 0, _, _, _ => none
  | n + 1, σ, x1, x2 =>
    rd σ 58 142 2 fun v1 =>
    if v1 ≤ x2 then
      some (x1, σ)
    else
      cl (m_X7_isEnded σ x2) fun r4 s3 =>
      if r4 = 0 then
        nm (x1 + 1) fun v6 =>
        nm (x2 + 1) fun v7 =>
        m_X7_unended_4 n s3 v6 v7
      else
        nm (x1 + 0) fun v8 =>
        nm (x2 + 1) fun v9 =>
        m_X7_unended_4 n s3 v8 v9
def m_X7_unended (σ : zw_S) : Option (Int32 × zw_S) :=
  m_X7_unended_4 200 σ 0 0
-- X7_ended
def m_X7_ended (σ : zw_S) : Option (Int32 × zw_S) :=
  rd σ 58 142 2 fun v1 =>
  cl (m_X7_unended σ) fun r3 s2 =>
  some (v1 - r3, s2)
-- X7_yearsGo
def m_X7_yearsGo_2 : Nat → zw_S → Int32 → Int32 → Option zw_S
  | 0, _, _, _ => none
  | n + 1, σ, x1, x2 =>
    if x1 ≤ x2 then
      some σ
    else
      cv (m_X7_year σ) fun s2 =>
      nm (x2 + 1) fun v3 =>
      m_X7_yearsGo_2 n s2 x1 v3
def m_X7_yearsGo (σ : zw_S) (x1 : Int32) : Option zw_S :=
  m_X7_yearsGo_2 200 σ x1 0
-- X7_isFarOn
def m_X7_isFarOn (σ : zw_S) (x1 : Int32) : Option (Int32 × zw_S) :=
  rd σ 58 142 0 fun v1 =>
  if v1 + x1 ≤ 999 then
    some (0, σ)
  else
    some (1, σ)
-- X7_years
def m_X7_years (σ : zw_S) (x1 : Int32) : Option (Int32 × zw_S) :=
  cl (m_X7_in σ x1.toInt64 1 60) fun r2 s1 =>
  if r2 = 0 then
    cl (m_X7_finds s1 (-1000001)) fun r15 s14 =>
    some (r15, s14)
  else
    cl (m_X7_isFarOn s1 x1) fun r5 s4 =>
    if r5 = 0 then
      cl (m_X7_ended s4) fun r8 s7 =>
      cv (m_X7_yearsGo s7 x1) fun s9 =>
      cl (m_X7_ended s9) fun r11 s10 =>
      some (r11 - r8, s10)
    else
      cl (m_X7_finds s4 (-1000005)) fun r13 s12 =>
      some (r13, s12)
-- X7_hours
def m_X7_hours_4 : Nat → zw_S → Int32 → Int32 → Option (Int32 × zw_S)
  | 0, _, _, _ => none
  | n + 1, σ, x1, x2 =>
    rd σ 58 142 2 fun v1 =>
    if v1 ≤ x2 then
      some (x1, σ)
    else
      cl (m_X7_task0 σ x2 2) fun r4 s3 =>
      nm (x1 + r4) fun v5 =>
      nm (x2 + 1) fun v6 =>
      m_X7_hours_4 n s3 v5 v6
def m_X7_hours (σ : zw_S) : Option (Int32 × zw_S) :=
  m_X7_hours_4 200 σ 0 0
-- X7_endedWorth
def m_X7_endedWorth_4 : Nat → zw_S → Int32 → Int32 → Option (Int32 × zw_S)
  | 0, _, _, _ => none
  | n + 1, σ, x1, x2 =>
    if 8 ≤ x2 then
      some (x1, σ)
    else
      cl (m_X7_sumOf σ x2 0) fun r3 s2 =>
      if r3 ≤ 0 then
        nm (x1 + 0) fun v5 =>
        nm (x2 + 1) fun v6 =>
        m_X7_endedWorth_4 n s2 v5 v6
      else
        cl (m_X7_isOpen s2 x2) fun r8 s7 =>
        if r8 = 0 then
          rd s7 58 142 (4 + (2 * x2)) fun v12 =>
          nm (x1 + v12) fun v13 =>
          nm (x2 + 1) fun v14 =>
          m_X7_endedWorth_4 n s7 v13 v14
        else
          nm (x1 + 0) fun v10 =>
          nm (x2 + 1) fun v11 =>
          m_X7_endedWorth_4 n s7 v10 v11
def m_X7_endedWorth (σ : zw_S) : Option (Int32 × zw_S) :=
  m_X7_endedWorth_4 200 σ 0 0
-- X7_openNames
def m_X7_openNames_4 : Nat → zw_S → Int32 → Int32 → Option (Int32 × zw_S)
  | 0, _, _, _ => none
  | n + 1, σ, x1, x2 =>
    if 8 ≤ x2 then
      some (x1, σ)
    else
      cl (m_X7_isOpen σ x2) fun r3 s2 =>
      if r3 = 0 then
        nm (x1 ||| 0) fun v5 =>
        nm (x2 + 1) fun v6 =>
        m_X7_openNames_4 n s2 v5 v6
      else
        nm (x1 ||| (1 <<< (x2 &&& 31))) fun v7 =>
        nm (x2 + 1) fun v8 =>
        m_X7_openNames_4 n s2 v7 v8
def m_X7_openNames (σ : zw_S) : Option (Int32 × zw_S) :=
  m_X7_openNames_4 200 σ 0 0
-- X7_allLives
def m_X7_allLives_4 : Nat → zw_S → Int32 → Int32 → Option (Int32 × zw_S)
  | 0, _, _, _ => none
  | n + 1, σ, x1, x2 =>
    if 8 ≤ x2 then
      some (x1, σ)
    else
      rd σ 58 142 ((4 + (2 * x2)) + 1) fun v2 =>
      nm (x1 + v2) fun v3 =>
      nm (x2 + 1) fun v4 =>
      m_X7_allLives_4 n σ v3 v4
def m_X7_allLives (σ : zw_S) : Option (Int32 × zw_S) :=
  m_X7_allLives_4 200 σ 0 0
-- X7_ahead
def m_X7_ahead (σ : zw_S) (x1 : Int32) (x2 : Int32) : Option (Int32 × zw_S) :=
  cl (m_X7_in σ x1.toInt64 0 100) fun r2 s1 =>
  if r2 = 0 then
    cl (m_X7_finds s1 (-1000001)) fun r5 s4 =>
    some (r5, s4)
  else
    cl (m_X7_in s1 x2.toInt64 0 4) fun r7 s6 =>
    if r7 = 0 then
      cl (m_X7_finds s6 (-1000001)) fun r36 s35 =>
      some (r36, s35)
    else
      cl (m_X7_isFarOn s6 x1) fun r10 s9 =>
      if r10 = 0 then
        cv (m_X7_row 58 60 s9) fun s12 =>
        cv (m_X7_yearsGo s12 x1) fun s13 =>
        if x2 = 0 then
          cl (m_X7_unended s13) fun r31 s30 =>
          cv (m_X7_row 60 58 s30) fun s32 =>
          some (r31, s32)
        else
          if x2 = 1 then
            cl (m_X7_hours s13) fun r28 s27 =>
            cv (m_X7_row 60 58 s27) fun s29 =>
            some (r28, s29)
          else
            if x2 = 2 then
              cl (m_X7_openNames s13) fun r25 s24 =>
              cv (m_X7_row 60 58 s24) fun s26 =>
              some (r25, s26)
            else
              if x2 = 3 then
                cl (m_X7_endedWorth s13) fun r22 s21 =>
                cv (m_X7_row 60 58 s21) fun s23 =>
                some (r22, s23)
              else
                cl (m_X7_allLives s13) fun r19 s18 =>
                cv (m_X7_row 60 58 s18) fun s20 =>
                some (r19, s20)
      else
        cl (m_X7_finds s9 (-1000005)) fun r34 s33 =>
        some (r34, s33)
-- X7_overIn
def m_X7_overIn_59 (σ : zw_S) (x4 : Int32) : Option (Int32 × zw_S) :=
  cv (m_X7_row 60 58 σ) fun s1 =>
  some (x4, s1)
def m_X7_overIn_43 (R14 : zw_S → Int32 → Int32 → Int32 → Int32 → Option (Int32 × zw_S)) (σ : zw_S) (x1 : Int32) (x2 : Int32) (x3 : Int32) (x4 : Int32) : Option (Int32 × zw_S) :=
  if x3 ≤ x4 then
    nm (x4 + 1) fun v2 =>
    R14 σ x1 x2 x3 v2
  else
    cv (m_X7_year σ) fun s3 =>
    nm (x4 + 1) fun v4 =>
    R14 s3 x1 x2 x3 v4
def m_X7_overIn_14 : Nat → zw_S → Int32 → Int32 → Int32 → Int32 → Option (Int32 × zw_S)
  | 0, _, _, _, _, _ => none
  | n + 1, σ, x1, x2, x3, x4 =>
    if x3 < x4 then
      m_X7_overIn_59 σ x4
    else
      if x1 < 0 then
        cl (m_X7_isEnded σ x2) fun r4 s3 =>
        if r4 = 0 then
          m_X7_overIn_43 (m_X7_overIn_14 n) s3 x1 x2 x3 x4
        else
          m_X7_overIn_59 s3 x4
      else
        cl (m_X7_isOpen σ x1) fun r7 s6 =>
        if r7 = 0 then
          m_X7_overIn_59 s6 x4
        else
          m_X7_overIn_43 (m_X7_overIn_14 n) s6 x1 x2 x3 x4
def m_X7_overIn (σ : zw_S) (x1 : Int32) (x2 : Int32) (x3 : Int32) : Option (Int32 × zw_S) :=
  cv (m_X7_row 58 60 σ) fun s1 =>
  m_X7_overIn_14 200 s1 x1 x2 x3 0
-- X7_shut
def m_X7_shut (σ : zw_S) (x1 : Int32) : Option (Int32 × zw_S) :=
  cl (m_X7_isName σ x1) fun r2 s1 =>
  if r2 = 0 then
    cl (m_X7_finds s1 (-1000001)) fun r15 s14 =>
    some (r15, s14)
  else
    cl (m_X7_isFarOn s1 100) fun r5 s4 =>
    if r5 = 0 then
      cl (m_X7_overIn s4 x1 0 100) fun r8 s7 =>
      if r8 ≤ 100 then
        some (r8, s7)
      else
        cl (m_X7_finds s7 (-1000004)) fun r11 s10 =>
        some (r11, s10)
    else
      cl (m_X7_finds s4 (-1000005)) fun r13 s12 =>
      some (r13, s12)
-- X7_ends
def m_X7_ends (σ : zw_S) (x1 : Int32) : Option (Int32 × zw_S) :=
  cl (m_X7_isTask σ x1) fun r2 s1 =>
  if r2 = 0 then
    cl (m_X7_finds s1 (-1000001)) fun r15 s14 =>
    some (r15, s14)
  else
    cl (m_X7_isFarOn s1 100) fun r5 s4 =>
    if r5 = 0 then
      cl (m_X7_overIn s4 (-1) x1 100) fun r8 s7 =>
      if r8 ≤ 100 then
        some (r8, s7)
      else
        cl (m_X7_finds s7 (-1000004)) fun r11 s10 =>
        some (r11, s10)
    else
      cl (m_X7_finds s4 (-1000005)) fun r13 s12 =>
      some (r13, s12)
-- X7_isShutInTime
def m_X7_isShutInTime (σ : zw_S) (x1 : Int32) (x2 : Int32) : Option (Int32 × zw_S) :=
  cl (m_X7_person0 σ x1 1) fun r2 s1 =>
  nm (40 - r2) fun v3 =>
  cl (m_X7_overIn s1 x2 0 v3) fun r5 s4 =>
  if v3 < r5 then
    some (0, s4)
  else
    some (1, s4)
-- X7_choose
def m_X7_choose_152 (σ : zw_S) (x2 : Int32) : Option (Int32 × zw_S) :=
  cl (m_X7_orNone σ x2) fun r2 s1 =>
  some (r2, s1)
def m_X7_choose_133 (R55 : zw_S → Int32 → Int32 → Int32 → Option (Int32 × zw_S)) (σ : zw_S) (x1 : Int32) (x3 : Int32) (y0 : Int32) : Option (Int32 × zw_S) :=
  wt σ 58 142 (100 + (4 * x1)) (-1) fun s1 =>
  nm (x3 + 1) fun v2 =>
  R55 s1 x1 y0 v2
def m_X7_choose_107 (R55 : zw_S → Int32 → Int32 → Int32 → Option (Int32 × zw_S)) (σ : zw_S) (x1 : Int32) (x2 : Int32) (x3 : Int32) : Option (Int32 × zw_S) :=
  wt σ 58 142 (100 + (4 * x1)) x3 fun s1 =>
  cl (m_X7_isShutInTime s1 x1 x3) fun r3 s2 =>
  if r3 = 0 then
    m_X7_choose_133 R55 s2 x1 x3 x2
  else
    m_X7_choose_133 R55 s2 x1 x3 x3
def m_X7_choose_55 : Nat → zw_S → Int32 → Int32 → Int32 → Option (Int32 × zw_S)
  | 0, _, _, _, _ => none
  | n + 1, σ, x1, x2, x3 =>
    if 8 ≤ x3 then
      m_X7_choose_152 σ x2
    else
      cl (m_X7_isOpen σ x3) fun r3 s2 =>
      if r3 = 0 then
        nm (x3 + 1) fun v5 =>
        m_X7_choose_55 n s2 x1 x2 v5
      else
        cl (m_X7_bearer s2 x3) fun r7 s6 =>
        if 0 ≤ r7 then
          nm (x3 + 1) fun v9 =>
          m_X7_choose_55 n s6 x1 x2 v9
        else
          if x2 < 0 then
            m_X7_choose_107 (m_X7_choose_55 n) s6 x1 x2 x3
          else
            rd s6 58 142 (4 + (2 * x3)) fun v11 =>
            rd s6 58 142 (4 + (2 * x2)) fun v12 =>
            if v12 < v11 then
              m_X7_choose_107 (m_X7_choose_55 n) s6 x1 x2 x3
            else
              nm (x3 + 1) fun v14 =>
              m_X7_choose_55 n s6 x1 x2 v14
def m_X7_choose (σ : zw_S) (x1 : Int32) : Option (Int32 × zw_S) :=
  cl (m_X7_isPerson σ x1) fun r2 s1 =>
  if r2 = 0 then
    cl (m_X7_finds s1 (-1000001)) fun r20 s19 =>
    some (r20, s19)
  else
    cl (m_X7_person0 s1 x1 0) fun r5 s4 =>
    if 0 ≤ r5 then
      cl (m_X7_finds s4 (-1000005)) fun r8 s7 =>
      some (r8, s7)
    else
      cl (m_X7_person0 s4 x1 1) fun r10 s9 =>
      if r10 = 40 then
        cl (m_X7_finds s9 (-1000005)) fun r13 s12 =>
        some (r13, s12)
      else
        cl (m_X7_isFarOn s9 40) fun r15 s14 =>
        if r15 = 0 then
          m_X7_choose_55 200 s14 x1 (-1) 0
        else
          cl (m_X7_finds s14 (-1000005)) fun r18 s17 =>
          some (r18, s17)
-- X7_handsFor
def m_X7_handsFor_105 (σ : zw_S) (x1 : Int32) (x2 : Int32) (x3 : Int32) : Option (Int32 × zw_S) :=
  wt σ 58 142 ((100 + (4 * x1)) + 2) x2 fun s1 =>
  cl (m_X7_orNone s1 x3) fun r3 s2 =>
  some (r3, s2)
def m_X7_handsFor_52 : Nat → zw_S → Int32 → Int32 → Int32 → Int32 → Option (Int32 × zw_S)
  | 0, _, _, _, _, _ => none
  | n + 1, σ, x1, x2, x3, x4 =>
    if 9 < x4 then
      m_X7_handsFor_105 σ x1 x2 x3
    else
      if 0 ≤ x3 then
        m_X7_handsFor_105 σ x1 x2 x3
      else
        wt σ 58 142 ((100 + (4 * x1)) + 2) x4 fun s3 =>
        cl (m_X7_person0 s3 x1 0) fun r5 s4 =>
        cl (m_X7_isShutInTime s4 x1 r5) fun r7 s6 =>
        if r7 = 0 then
          nm (x4 + 1) fun v9 =>
          m_X7_handsFor_52 n s6 x1 x2 (-1) v9
        else
          nm (x4 + 1) fun v10 =>
          m_X7_handsFor_52 n s6 x1 x2 x4 v10
def m_X7_handsFor (σ : zw_S) (x1 : Int32) : Option (Int32 × zw_S) :=
  cl (m_X7_isPerson σ x1) fun r2 s1 =>
  if r2 = 0 then
    cl (m_X7_finds s1 (-1000001)) fun r17 s16 =>
    some (r17, s16)
  else
    cl (m_X7_person0 s1 x1 0) fun r5 s4 =>
    if r5 < 0 then
      cl (m_X7_finds s4 (-1000005)) fun r8 s7 =>
      some (r8, s7)
    else
      cl (m_X7_isFarOn s4 40) fun r10 s9 =>
      if r10 = 0 then
        cl (m_X7_person0 s9 x1 2) fun r13 s12 =>
        m_X7_handsFor_52 200 s12 x1 r13 (-1) 1
      else
        cl (m_X7_finds s9 (-1000005)) fun r15 s14 =>
        some (r15, s14)
-- X7_mayGet
def m_X7_mayGet (σ : zw_S) (x1 : Int32) : Option (Int32 × zw_S) :=
  cl (m_X7_person0 σ x1 0) fun r2 s1 =>
  if 0 ≤ r2 then
    some (0, s1)
  else
    cl (m_X7_person0 s1 x1 1) fun r5 s4 =>
    if 40 ≤ r5 then
      some (0, s4)
    else
      some (1, s4)
-- X7_waiting
def m_X7_waiting_4 : Nat → zw_S → Int32 → Int32 → Option (Int32 × zw_S)
  | 0, _, _, _ => none
  | n + 1, σ, x1, x2 =>
    rd σ 58 142 3 fun v1 =>
    if v1 ≤ x2 then
      some (x1, σ)
    else
      cl (m_X7_mayGet σ x2) fun r4 s3 =>
      if r4 = 0 then
        nm (x1 + 0) fun v6 =>
        nm (x2 + 1) fun v7 =>
        m_X7_waiting_4 n s3 v6 v7
      else
        nm (x1 + 1) fun v8 =>
        nm (x2 + 1) fun v9 =>
        m_X7_waiting_4 n s3 v8 v9
def m_X7_waiting (σ : zw_S) : Option (Int32 × zw_S) :=
  m_X7_waiting_4 200 σ 0 0
-- X7_bestWay
def m_X7_bestWay_392 (R125 : zw_S → Int32 → Int32 → Int32 → Int32 → Int32 → Option (Int32 × zw_S)) (R353 : zw_S → Int32 → Int32 → Int32 → Int32 → Int32 → Int32 → Option (Int32 × zw_S)) (σ : zw_S) (x1 : Int32) (x2 : Int32) (x3 : Int32) (x4 : Int32) (x8 : Int32) (y0 : Int32) : Option (Int32 × zw_S) :=
  if y0 = 0 then
    wt σ 63 8 x8 (-1) fun s2 =>
    nm (x8 + (-1)) fun v3 =>
    R353 s2 x1 x2 x3 x4 y0 v3
  else
    rd σ 63 8 x8 fun v4 =>
    wt σ 63 8 x8 (v4 + 1) fun s5 =>
    nm (x8 + (-1)) fun v6 =>
    R353 s5 x1 x2 x3 x4 y0 v6
def m_X7_bestWay_353 (R125 : zw_S → Int32 → Int32 → Int32 → Int32 → Int32 → Option (Int32 × zw_S)) : Nat → zw_S → Int32 → Int32 → Int32 → Int32 → Int32 → Int32 → Option (Int32 × zw_S)
  | 0, _, _, _, _, _, _, _ => none
  | n + 1, σ, x1, x2, x3, x4, x5, x8 =>
    if x8 < 0 then
      R125 σ x1 x2 x3 x4 x5
    else
      if x5 = 0 then
        if (x3 >>> (x8 &&& 31)) &&& 1 = 0 then
          nm (x8 + (-1)) fun v6 =>
          m_X7_bestWay_353 R125 n σ x1 x2 x3 x4 x5 v6
        else
          rd σ 63 8 x8 fun v4 =>
          if 7 ≤ v4 then
            m_X7_bestWay_392 R125 (m_X7_bestWay_353 R125 n) σ x1 x2 x3 x4 x8 0
          else
            m_X7_bestWay_392 R125 (m_X7_bestWay_353 R125 n) σ x1 x2 x3 x4 x8 1
      else
        R125 σ x1 x2 x3 x4 x5
def m_X7_bestWay_330 (R125 : zw_S → Int32 → Int32 → Int32 → Int32 → Int32 → Option (Int32 × zw_S)) (σ : zw_S) (x1 : Int32) (x2 : Int32) (x3 : Int32) (x4 : Int32) (x8 : Int32) : Option (Int32 × zw_S) :=
  if x8 ≤ x4 then
    m_X7_bestWay_353 R125 200 σ x1 x2 x3 x4 0 7
  else
    m_X7_bestWay_353 R125 200 σ x1 x2 x3 x8 0 7
def m_X7_bestWay_296 (R125 : zw_S → Int32 → Int32 → Int32 → Int32 → Int32 → Option (Int32 × zw_S)) : Nat → zw_S → Int32 → Int32 → Int32 → Int32 → Int32 → Int32 → Option (Int32 × zw_S)
  | 0, _, _, _, _, _, _, _ => none
  | n + 1, σ, x1, x2, x3, x4, x8, x9 =>
    if 8 ≤ x9 then
      m_X7_bestWay_330 R125 σ x1 x2 x3 x4 x8
    else
      if x8 ≤ x4 then
        m_X7_bestWay_330 R125 σ x1 x2 x3 x4 x8
      else
        rd σ 63 8 x9 fun v3 =>
        wt σ 64 8 x9 v3 fun s4 =>
        nm (x9 + 1) fun v5 =>
        m_X7_bestWay_296 R125 n s4 x1 x2 x3 x4 x8 v5
def m_X7_bestWay_271 (R125 : zw_S → Int32 → Int32 → Int32 → Int32 → Int32 → Option (Int32 × zw_S)) (σ : zw_S) (x1 : Int32) (x2 : Int32) (x3 : Int32) (x4 : Int32) : Option (Int32 × zw_S) :=
  cv (m_X7_yearsGo σ x1) fun s1 =>
  cl (m_X7_endedWorth s1) fun r3 s2 =>
  cv (m_X7_row 61 58 s2) fun s4 =>
  m_X7_bestWay_296 R125 200 s4 x1 x2 x3 x4 r3 0
def m_X7_bestWay_229 (R125 : zw_S → Int32 → Int32 → Int32 → Int32 → Int32 → Option (Int32 × zw_S)) : Nat → zw_S → Int32 → Int32 → Int32 → Int32 → Int32 → Option (Int32 × zw_S)
  | 0, _, _, _, _, _, _ => none
  | n + 1, σ, x1, x2, x3, x4, x8 =>
    if 8 ≤ x8 then
      m_X7_bestWay_271 R125 σ x1 x2 x3 x4
    else
      rd σ 63 8 x8 fun v2 =>
      if v2 < 0 then
        nm (x8 + 1) fun v4 =>
        m_X7_bestWay_229 R125 n σ x1 x2 x3 x4 v4
      else
        rd σ 63 8 x8 fun v5 =>
        wt σ 58 142 (100 + (4 * x8)) v5 fun s6 =>
        nm (x8 + 1) fun v7 =>
        m_X7_bestWay_229 R125 n s6 x1 x2 x3 x4 v7
def m_X7_bestWay_221 (R125 : zw_S → Int32 → Int32 → Int32 → Int32 → Int32 → Option (Int32 × zw_S)) (σ : zw_S) (x1 : Int32) (x2 : Int32) (x3 : Int32) (x4 : Int32) (x7 : Int32) : Option (Int32 × zw_S) :=
  if x7 = 0 then
    m_X7_bestWay_353 R125 200 σ x1 x2 x3 x4 0 7
  else
    m_X7_bestWay_229 R125 200 σ x1 x2 x3 x4 0
def m_X7_bestWay_199 (R125 : zw_S → Int32 → Int32 → Int32 → Int32 → Int32 → Option (Int32 × zw_S)) (R139 : zw_S → Int32 → Int32 → Int32 → Int32 → Int32 → Int32 → Int32 → Option (Int32 × zw_S)) (σ : zw_S) (x1 : Int32) (x2 : Int32) (x3 : Int32) (x4 : Int32) (x6 : Int32) (x8 : Int32) (y0 : Int32) : Option (Int32 × zw_S) :=
  rd σ 63 8 x8 fun v1 =>
  nm (x6 ||| (1 <<< (v1 &&& 31))) fun v2 =>
  nm (x8 + 1) fun v3 =>
  R139 σ x1 x2 x3 x4 v2 y0 v3
def m_X7_bestWay_139 (R125 : zw_S → Int32 → Int32 → Int32 → Int32 → Int32 → Option (Int32 × zw_S)) : Nat → zw_S → Int32 → Int32 → Int32 → Int32 → Int32 → Int32 → Int32 → Option (Int32 × zw_S)
  | 0, _, _, _, _, _, _, _, _ => none
  | n + 1, σ, x1, x2, x3, x4, x6, x7, x8 =>
    if 8 ≤ x8 then
      m_X7_bestWay_221 R125 σ x1 x2 x3 x4 x7
    else
      rd σ 63 8 x8 fun v2 =>
      if 0 ≤ v2 then
        if x7 = 0 then
          m_X7_bestWay_199 R125 (m_X7_bestWay_139 R125 n) σ x1 x2 x3 x4 x6 x8 0
        else
          rd σ 63 8 x8 fun v5 =>
          if (x2 >>> (v5 &&& 31)) &&& 1 = 1 then
            rd σ 63 8 x8 fun v7 =>
            if (x6 >>> (v7 &&& 31)) &&& 1 = 0 then
              m_X7_bestWay_199 R125 (m_X7_bestWay_139 R125 n) σ x1 x2 x3 x4 x6 x8 1
            else
              m_X7_bestWay_199 R125 (m_X7_bestWay_139 R125 n) σ x1 x2 x3 x4 x6 x8 0
          else
            m_X7_bestWay_199 R125 (m_X7_bestWay_139 R125 n) σ x1 x2 x3 x4 x6 x8 0
      else
        nm (x8 + 1) fun v9 =>
        m_X7_bestWay_139 R125 n σ x1 x2 x3 x4 x6 x7 v9
def m_X7_bestWay_125 : Nat → zw_S → Int32 → Int32 → Int32 → Int32 → Int32 → Option (Int32 × zw_S)
  | 0, _, _, _, _, _, _ => none
  | n + 1, σ, x1, x2, x3, x4, x5 =>
    if x5 = 0 then
      some (x4, σ)
    else
      m_X7_bestWay_139 (m_X7_bestWay_125 n) 200 σ x1 x2 x3 x4 0 1 0
def m_X7_bestWay_108 (σ : zw_S) (x1 : Int32) (x2 : Int32) (x3 : Int32) : Option (Int32 × zw_S) :=
  cv (m_X7_row 58 61 σ) fun s1 =>
  m_X7_bestWay_125 7000 s1 x1 x2 x3 (-1) 1
def m_X7_bestWay_87 : Nat → zw_S → Int32 → Int32 → Int32 → Int32 → Option (Int32 × zw_S)
  | 0, _, _, _, _, _ => none
  | n + 1, σ, x1, x2, x3, x4 =>
    if 8 ≤ x4 then
      m_X7_bestWay_108 σ x1 x2 x3
    else
      wt σ 63 8 x4 (-1) fun s2 =>
      nm (x4 + 1) fun v3 =>
      m_X7_bestWay_87 n s2 x1 x2 x3 v3
def m_X7_bestWay_47 : Nat → zw_S → Int32 → Int32 → Int32 → Int32 → Option (Int32 × zw_S)
  | 0, _, _, _, _, _ => none
  | n + 1, σ, x1, x2, x3, x4 =>
    rd σ 58 142 3 fun v1 =>
    if v1 ≤ x4 then
      m_X7_bestWay_87 200 σ x1 x2 x3 0
    else
      cl (m_X7_mayGet σ x4) fun r4 s3 =>
      if r4 = 0 then
        nm (x3 ||| 0) fun v6 =>
        nm (x4 + 1) fun v7 =>
        m_X7_bestWay_47 n s3 x1 x2 v6 v7
      else
        nm (x3 ||| (1 <<< (x4 &&& 31))) fun v8 =>
        nm (x4 + 1) fun v9 =>
        m_X7_bestWay_47 n s3 x1 x2 v8 v9
def m_X7_bestWay_42 (σ : zw_S) (x1 : Int32) (x2 : Int32) : Option (Int32 × zw_S) :=
  m_X7_bestWay_47 200 σ x1 x2 0 0
def m_X7_bestWay_4 : Nat → zw_S → Int32 → Int32 → Int32 → Option (Int32 × zw_S)
  | 0, _, _, _, _ => none
  | n + 1, σ, x1, x2, x3 =>
    if 8 ≤ x3 then
      m_X7_bestWay_42 σ x1 x2
    else
      cl (m_X7_isOpen σ x3) fun r3 s2 =>
      if r3 = 0 then
        nm (x2 ||| 0) fun v5 =>
        nm (x3 + 1) fun v6 =>
        m_X7_bestWay_4 n s2 x1 v5 v6
      else
        cl (m_X7_bearer s2 x3) fun r8 s7 =>
        if 0 ≤ r8 then
          nm (x2 ||| 0) fun v10 =>
          nm (x3 + 1) fun v11 =>
          m_X7_bestWay_4 n s7 x1 v10 v11
        else
          nm (x2 ||| (1 <<< (x3 &&& 31))) fun v12 =>
          nm (x3 + 1) fun v13 =>
          m_X7_bestWay_4 n s7 x1 v12 v13
def m_X7_bestWay (σ : zw_S) (x1 : Int32) : Option (Int32 × zw_S) :=
  m_X7_bestWay_4 200 σ x1 0 0
-- X7_wrongWay
def m_X7_wrongWay (σ : zw_S) (x1 : Int32) : Option (Int32 × zw_S) :=
  cl (m_X7_in σ x1.toInt64 1 40) fun r2 s1 =>
  if r2 = 0 then
    some ((-1000001), s1)
  else
    cl (m_X7_isFarOn s1 x1) fun r5 s4 =>
    if r5 = 0 then
      cl (m_X7_waiting s4) fun r8 s7 =>
      if r8 ≤ 4 then
        some (0, s7)
      else
        some ((-1000007), s7)
    else
      some ((-1000005), s4)
-- X7_most
def m_X7_most (σ : zw_S) (x1 : Int32) : Option (Int32 × zw_S) :=
  cl (m_X7_wrongWay σ x1) fun r2 s1 =>
  if 0 ≤ r2 then
    cl (m_X7_bestWay s1 x1) fun r5 s4 =>
    some (r5, s4)
  else
    cl (m_X7_finds s1 r2) fun r7 s6 =>
    some (r7, s6)
-- X7_give
def m_X7_give_27 : Nat → zw_S → Int32 → Int32 → Option (Int32 × zw_S)
  | 0, _, _, _ => none
  | n + 1, σ, x3, x4 =>
    if 8 ≤ x4 then
      some (x3, σ)
    else
      rd σ 64 8 x4 fun v2 =>
      if 0 ≤ v2 then
        rd σ 64 8 x4 fun v4 =>
        wt σ 58 142 (100 + (4 * x4)) v4 fun s5 =>
        nm (x3 + 1) fun v6 =>
        nm (x4 + 1) fun v7 =>
        m_X7_give_27 n s5 v6 v7
      else
        nm (x4 + 1) fun v8 =>
        m_X7_give_27 n σ x3 v8
def m_X7_give (σ : zw_S) (x1 : Int32) : Option (Int32 × zw_S) :=
  cl (m_X7_wrongWay σ x1) fun r2 s1 =>
  if 0 ≤ r2 then
    cl (m_X7_bestWay s1 x1) fun r5 s4 =>
    m_X7_give_27 200 s4 0 0
  else
    cl (m_X7_finds s1 r2) fun r7 s6 =>
    some (r7, s6)
-- X7_lives
def m_X7_lives_131 (σ : zw_S) (x3 : Int32) (y0 : Int32) : Option (Int32 × zw_S) :=
  cv (m_X7_row 60 58 σ) fun s1 =>
  if y0 = 0 then
    cl (m_X7_finds s1 (-1000004)) fun r4 s3 =>
    some (r4, s3)
  else
    some (x3, s1)
def m_X7_lives_118 (σ : zw_S) (x1 : Int32) (x3 : Int32) : Option (Int32 × zw_S) :=
  cl (m_X7_isOpen σ x1) fun r2 s1 =>
  if r2 = 0 then
    m_X7_lives_131 s1 x3 1
  else
    m_X7_lives_131 s1 x3 0
def m_X7_lives_90 (R56 : zw_S → Int32 → Int32 → Int32 → Option (Int32 × zw_S)) : Nat → zw_S → Int32 → Int32 → Int32 → Int32 → Option (Int32 × zw_S)
  | 0, _, _, _, _, _ => none
  | n + 1, σ, x1, x2, x3, x4 =>
    if 40 ≤ x4 then
      R56 σ x1 x2 x3
    else
      cl (m_X7_isOpen σ x1) fun r3 s2 =>
      if r3 = 0 then
        R56 s2 x1 x2 x3
      else
        cv (m_X7_year s2) fun s5 =>
        nm (x4 + 1) fun v6 =>
        m_X7_lives_90 R56 n s5 x1 x2 x3 v6
def m_X7_lives_56 : Nat → zw_S → Int32 → Int32 → Int32 → Option (Int32 × zw_S)
  | 0, _, _, _, _ => none
  | n + 1, σ, x1, x2, x3 =>
    if 9 ≤ x3 then
      m_X7_lives_118 σ x1 x3
    else
      cl (m_X7_isOpen σ x1) fun r3 s2 =>
      if r3 = 0 then
        m_X7_lives_118 s2 x1 x3
      else
        nm (x3 + 1) fun v5 =>
        wt s2 58 142 3 0 fun s6 =>
        cv (m_X7_isBorn s6 x2 0 x1) fun s7 =>
        m_X7_lives_90 (m_X7_lives_56 n) 200 s7 x1 x2 v5 0
def m_X7_lives (σ : zw_S) (x1 : Int32) (x2 : Int32) : Option (Int32 × zw_S) :=
  cl (m_X7_isName σ x1) fun r2 s1 =>
  if r2 = 0 then
    cl (m_X7_finds s1 (-1000001)) fun r5 s4 =>
    some (r5, s4)
  else
    cl (m_X7_areHands s1 x2) fun r7 s6 =>
    if r7 = 0 then
      cl (m_X7_finds s6 (-1000001)) fun r17 s16 =>
      some (r17, s16)
    else
      cl (m_X7_isOpen s6 x1) fun r10 s9 =>
      if r10 = 0 then
        cl (m_X7_finds s9 (-1000005)) fun r15 s14 =>
        some (r15, s14)
      else
        cv (m_X7_row 58 60 s9) fun s12 =>
        wt s12 58 142 3 0 fun s13 =>
        m_X7_lives_56 200 s13 x1 x2 0
-- X7_hoursBehind
def m_X7_hoursBehind (σ : zw_S) (x1 : Int32) : Option (Int32 × zw_S) :=
  cv (m_X7_row 58 60 σ) fun s1 =>
  cv (m_X7_yearsGo s1 x1) fun s2 =>
  cl (m_X7_hours s2) fun r4 s3 =>
  cv (m_X7_row 60 58 s3) fun s5 =>
  some (r4, s5)
-- X7_best
def m_X7_best_128 (σ : zw_S) (x2 : Int32) : Option (Int32 × zw_S) :=
  cl (m_X7_orNone σ x2) fun r2 s1 =>
  some (r2, s1)
def m_X7_best_41 : Nat → zw_S → Int32 → Int32 → Int32 → Int32 → Option (Int32 × zw_S)
  | 0, _, _, _, _, _ => none
  | n + 1, σ, x1, x2, x3, x4 =>
    rd σ 58 142 2 fun v1 =>
    if v1 ≤ x4 then
      m_X7_best_128 σ x2
    else
      cl (m_X7_isEnded σ x4) fun r4 s3 =>
      if r4 = 0 then
        cl (m_X7_becomes s3 ((20 + (4 * x4)) + 2) 0) fun r7 s6 =>
        cl (m_X7_hoursBehind s6 x1) fun r9 s8 =>
        wt s8 58 142 ((20 + (4 * x4)) + 2) r7 fun s10 =>
        if x2 < 0 then
          nm (x4 + 1) fun v12 =>
          m_X7_best_41 n s10 x1 x4 r9 v12
        else
          if r9 < x3 then
            nm (x4 + 1) fun v14 =>
            m_X7_best_41 n s10 x1 x4 r9 v14
          else
            nm (x4 + 1) fun v15 =>
            m_X7_best_41 n s10 x1 x2 x3 v15
      else
        nm (x4 + 1) fun v16 =>
        m_X7_best_41 n s3 x1 x2 x3 v16
def m_X7_best (σ : zw_S) (x1 : Int32) : Option (Int32 × zw_S) :=
  cl (m_X7_in σ x1.toInt64 1 60) fun r2 s1 =>
  if r2 = 0 then
    cl (m_X7_finds s1 (-1000001)) fun r10 s9 =>
    some (r10, s9)
  else
    cl (m_X7_isFarOn s1 x1) fun r5 s4 =>
    if r5 = 0 then
      m_X7_best_41 200 s4 x1 (-1) 0 0
    else
      cl (m_X7_finds s4 (-1000005)) fun r8 s7 =>
      some (r8, s7)
-- X7_whom
def m_X7_whom_131 (σ : zw_S) (x3 : Int32) (x4 : Int32) (x5 : Int32) : Option (Int32 × zw_S) :=
  wt σ 58 142 x3 x4 fun s1 =>
  some (x5, s1)
def m_X7_whom_72 : Nat → zw_S → Int32 → Int32 → Int32 → Int32 → Int32 → Int32 → Int32 → Option (Int32 × zw_S)
  | 0, _, _, _, _, _, _, _, _ => none
  | n + 1, σ, x1, x2, x3, x4, x5, x6, x7 =>
    rd σ 58 142 3 fun v1 =>
    if v1 ≤ x7 then
      m_X7_whom_131 σ x3 x4 x5
    else
      if x7 = x1 then
        nm (x7 + 1) fun v10 =>
        m_X7_whom_72 n σ x1 x2 x3 x4 x5 x6 v10
      else
        wt σ 58 142 x3 x7 fun s4 =>
        cl (m_X7_hoursBehind s4 x2) fun r6 s5 =>
        if r6 < x6 then
          nm (x7 + 1) fun v8 =>
          m_X7_whom_72 n s5 x1 x2 x3 x4 x7 r6 v8
        else
          nm (x7 + 1) fun v9 =>
          m_X7_whom_72 n s5 x1 x2 x3 x4 x5 x6 v9
def m_X7_whom (σ : zw_S) (x1 : Int32) (x2 : Int32) : Option (Int32 × zw_S) :=
  cl (m_X7_isPerson σ x1) fun r2 s1 =>
  if r2 = 0 then
    cl (m_X7_finds s1 (-1000001)) fun r5 s4 =>
    some (r5, s4)
  else
    cl (m_X7_in s1 x2.toInt64 1 60) fun r7 s6 =>
    if r7 = 0 then
      cl (m_X7_finds s6 (-1000001)) fun r20 s19 =>
      some (r20, s19)
    else
      cl (m_X7_isFarOn s6 x2) fun r10 s9 =>
      if r10 = 0 then
        nm ((100 + (4 * x1)) + 3) fun v12 =>
        cl (m_X7_becomes s9 v12 (-1)) fun r14 s13 =>
        cl (m_X7_hoursBehind s13 x2) fun r16 s15 =>
        m_X7_whom_72 200 s15 x1 x2 v12 r14 (-1) r16 0
      else
        cl (m_X7_finds s9 (-1000005)) fun r18 s17 =>
        some (r18, s17)
-- X7_seed
def m_X7_seed (σ : zw_S) (x1 : Int32) : Option (Int32 × zw_S) :=
  cl (m_X7_becomes σ 1 x1) fun r2 s1 =>
  some (r2, s1)
-- X7_feed
def m_X7_feed_41 : Nat → zw_S → Int32 → Int32 → Option (Int32 × zw_S)
  | 0, _, _, _ => none
  | n + 1, σ, x1, x3 =>
    if x3 < 0 then
      some (σ 57 9, σ)
    else
      wt σ 65 120 (σ 57 9) ((x1 >>> ((8 * x3) &&& 31)) &&& 255) fun s2 =>
      nm (zw_wr s2 57 9 ((s2 57 9) + 1)) fun s3 =>
      nm (x3 + (-1)) fun v4 =>
      m_X7_feed_41 n s3 x1 v4
def m_X7_feed (σ : zw_S) (x1 : Int32) (x2 : Int32) : Option (Int32 × zw_S) :=
  cl (m_X7_in σ x2.toInt64 1 4) fun r2 s1 =>
  if r2 = 0 then
    cl (m_X7_finds s1 (-1000001)) fun r9 s8 =>
    some (r9, s8)
  else
    if (s1 57 9) + x2 ≤ 120 then
      nm (x2 - 1) fun v5 =>
      m_X7_feed_41 200 s1 x1 v5
    else
      cl (m_X7_finds s1 (-1000002)) fun r7 s6 =>
      some (r7, s6)
-- X7_wipe
def m_X7_wipe (σ : zw_S) : Option (Int32 × zw_S) :=
  nm (σ 57 9) fun v1 =>
  nm (zw_wr σ 57 9 0) fun s2 =>
  some (v1, s2)
-- X7_isByte
def m_X7_isByte (σ : zw_S) (x1 : Int32) (x2 : Int32) (x3 : Int32) : Option (Int32 × zw_S) :=
  if σ 57 9 ≤ x1 then
    some (0, σ)
  else
    rd σ 65 120 x1 fun v2 =>
    cl (m_X7_in σ v2.toInt64 x2.toInt64 x3.toInt64) fun r4 s3 =>
    if r4 = 0 then
      some (0, s3)
    else
      some (1, s3)
-- X7_token
def m_X7_token_161 : Nat → zw_S → Option zw_S
  | 0, _ => none
  | n + 1, σ =>
    if σ 57 10 = 2 then
      cl (m_X7_isByte σ (σ 57 12) 48 57) fun r3 s2 =>
      if r3 = 0 then
        some s2
      else
        if s2 57 13 ≤ 9999 then
          rd s2 65 120 (s2 57 12) fun v6 =>
          nm (zw_wr s2 57 13 (((10 * (s2 57 13)) + v6) - 48)) fun s7 =>
          nm (zw_wr s7 57 12 ((s7 57 12) + 1)) fun s8 =>
          m_X7_token_161 n s8
        else
          nm (zw_wr s2 57 13 (s2 57 13)) fun s9 =>
          nm (zw_wr s9 57 12 ((s9 57 12) + 1)) fun s10 =>
          m_X7_token_161 n s10
    else
      some σ
def m_X7_token_125 : Nat → zw_S → Option zw_S
  | 0, _ => none
  | n + 1, σ =>
    if σ 57 10 = 1 then
      cl (m_X7_isByte σ (σ 57 12) 97 122) fun r3 s2 =>
      if r3 = 0 then
        m_X7_token_161 200 s2
      else
        nm (zw_wr s2 57 12 ((s2 57 12) + 1)) fun s5 =>
        m_X7_token_125 n s5
    else
      m_X7_token_161 200 σ
def m_X7_token_104 (σ : zw_S) (y0 : Int32) : Option zw_S :=
  nm (zw_wr σ 57 10 y0) fun s1 =>
  if s1 57 10 = 3 then
    nm (zw_wr s1 57 12 ((s1 57 12) + 1)) fun s3 =>
    m_X7_token_125 200 s3
  else
    m_X7_token_125 200 s1
def m_X7_token_36 (σ : zw_S) : Option zw_S :=
  nm (zw_wr σ 57 12 (σ 57 11)) fun s1 =>
  nm (zw_wr s1 57 13 0) fun s2 =>
  if s2 57 11 = s2 57 9 then
    m_X7_token_104 s2 0
  else
    cl (m_X7_isByte s2 (s2 57 11) 97 122) fun r5 s4 =>
    if r5 = 0 then
      cl (m_X7_isByte s4 (s4 57 11) 48 57) fun r8 s7 =>
      if r8 = 0 then
        m_X7_token_104 s7 3
      else
        m_X7_token_104 s7 2
    else
      m_X7_token_104 s4 1
def m_X7_token_8 : Nat → zw_S → Option zw_S
  | 0, _ => none
  | n + 1, σ =>
    cl (m_X7_isByte σ (σ 57 11) 32 32) fun r2 s1 =>
    if r2 = 0 then
      m_X7_token_36 s1
    else
      nm (zw_wr s1 57 11 ((s1 57 11) + 1)) fun s4 =>
      m_X7_token_8 n s4
def m_X7_token (σ : zw_S) : Option zw_S :=
  nm (zw_wr σ 57 11 (σ 57 12)) fun s1 =>
  m_X7_token_8 200 s1
-- X7_isWord
def m_X7_isWord_39 (b1 : Nat) : Nat → zw_S → Int32 → Int32 → Option (Int32 × zw_S)
  | 0, _, _, _ => none
  | n + 1, σ, x2, x3 =>
    if x2 = 0 then
      tt (zz x2) <|
      some (x2, σ)
    else
      if zsl b1 ≤ x3 then
        tt (zz x2) <|
        some (x2, σ)
      else
        rd σ 65 120 ((σ 57 11) + x3) fun v5 =>
        tt (zi x3 (zw_len.getD b1 0)) <|
        if v5 = zsc b1 x3 then
          nm (x3 + 1) fun v9 =>
          m_X7_isWord_39 b1 n σ 1 v9
        else
          nm (x3 + 1) fun v8 =>
          m_X7_isWord_39 b1 n σ 0 v8
def m_X7_isWord (b1 : Nat) (σ : zw_S) : Option (Int32 × zw_S) :=
  if σ 57 14 = 0 then
    if σ 57 10 = 1 then
      if (σ 57 12) - (σ 57 11) = zsl b1 then
        m_X7_isWord_39 b1 200 σ 1 0
      else
        m_X7_isWord_39 b1 200 σ 0 0
    else
      m_X7_isWord_39 b1 200 σ 0 0
  else
    m_X7_isWord_39 b1 200 σ 0 0
-- X7_takes
def m_X7_takes (b1 : Nat) (σ : zw_S) : Option (Int32 × zw_S) :=
  cl (m_X7_isWord b1 σ) fun r2 s1 =>
  if r2 = 0 then
    some (0, s1)
  else
    cv (m_X7_token s1) fun s4 =>
    some (1, s4)
-- X7_isSign
def m_X7_isSign (σ : zw_S) (x1 : Int32) : Option (Int32 × zw_S) :=
  if σ 57 14 = 0 then
    if σ 57 10 = 3 then
      rd σ 65 120 (σ 57 11) fun v3 =>
      if v3 = x1 then
        some (1, σ)
      else
        some (0, σ)
    else
      some (0, σ)
  else
    some (0, σ)
-- X7_number
def m_X7_number_40 (σ : zw_S) (y0 : Int32) : Option (Int32 × zw_S) :=
  tt (zz y0) <|
  nm (zw_wr σ 57 14 y0) fun s2 =>
  nm (s2 57 13) fun v3 =>
  if s2 57 14 = 0 then
    cv (m_X7_token s2) fun s5 =>
    some (v3, s5)
  else
    some (v3, s2)
def m_X7_number (σ : zw_S) (x1 : Int32) (x2 : Int32) (x3 : Int32) : Option (Int32 × zw_S) :=
  if σ 57 14 = 0 then
    if x3 = 0 then
      m_X7_number_40 σ 1
    else
      if σ 57 10 = 2 then
        cl (m_X7_in σ ((σ 57 13).toInt64) x1.toInt64 x2.toInt64) fun r5 s4 =>
        if r5 = 0 then
          m_X7_number_40 s4 1
        else
          m_X7_number_40 s4 0
      else
        m_X7_number_40 σ 1
  else
    m_X7_number_40 σ 1
-- X7_word
def m_X7_word (b1 : Nat) (σ : zw_S) : Option zw_S :=
  if σ 57 14 = 0 then
    cl (m_X7_takes b1 σ) fun r4 s3 =>
    if r4 = 0 then
      nm (zw_wr s3 57 14 1) fun s7 =>
      some s7
    else
      nm (zw_wr s3 57 14 0) fun s6 =>
      some s6
  else
    nm (zw_wr σ 57 14 1) fun s2 =>
    some s2
-- X7_kindHere
def m_X7_kindHere (σ : zw_S) : Option (Int32 × zw_S) :=
  cl (m_X7_isWord 6 σ) fun r2 s1 =>
  if r2 = 0 then
    cl (m_X7_isWord 7 s1) fun r5 s4 =>
    if r5 = 0 then
      cl (m_X7_isWord 8 s4) fun r8 s7 =>
      if r8 = 0 then
        cl (m_X7_isWord 9 s7) fun r11 s10 =>
        if r11 = 0 then
          cl (m_X7_isWord 10 s10) fun r14 s13 =>
          if r14 = 0 then
            cl (m_X7_isWord 11 s13) fun r17 s16 =>
            if r17 = 0 then
              cl (m_X7_isWord 12 s16) fun r20 s19 =>
              if r20 = 0 then
                some ((-1), s19)
              else
                some (6, s19)
            else
              some (5, s16)
          else
            some (4, s13)
        else
          some (3, s10)
      else
        some (2, s7)
    else
      some (1, s4)
  else
    some (0, s1)
-- X7_nameItem
def m_X7_nameItem (σ : zw_S) : Option zw_S :=
  cl (m_X7_number σ 0 7 1) fun r2 s1 =>
  cv (m_X7_word 1 s1) fun s3 =>
  cl (m_X7_number s3 0 99 1) fun r5 s4 =>
  if s4 57 14 = 0 then
    wt s4 58 142 (4 + (2 * r2)) r5 fun s7 =>
    some s7
  else
    some s4
-- X7_taskItem
def m_X7_taskItem_93 (σ : zw_S) (x1 : Int32) (x2 : Int32) (x3 : Int32) (y0 : Int32) : Option zw_S :=
  if σ 57 14 = 0 then
    cv (m_X7_comes σ x1 x2 x3 y0) fun s2 =>
    some s2
  else
    some σ
def m_X7_taskItem_24 (σ : zw_S) (x1 : Int32) (y0 : Int32) : Option zw_S :=
  tt (zz y0) <|
  nm (zw_wr σ 57 14 y0) fun s2 =>
  if s2 57 14 = 0 then
    cv (m_X7_token s2) fun s4 =>
    cl (m_X7_number s4 0 7 1) fun r6 s5 =>
    cv (m_X7_word 13 s5) fun s7 =>
    cl (m_X7_number s7 1 999 1) fun r9 s8 =>
    cl (m_X7_takes 14 s8) fun r11 s10 =>
    if r11 = 0 then
      m_X7_taskItem_93 s10 x1 r6 r9 (-1)
    else
      rd s10 58 142 2 fun v13 =>
      cl (m_X7_number s10 0 (v13 - 1) 1) fun r15 s14 =>
      m_X7_taskItem_93 s14 x1 r6 r9 r15
  else
    some s2
def m_X7_taskItem (σ : zw_S) (x1 : Int32) : Option zw_S :=
  if σ 57 14 = 0 then
    rd σ 58 142 2 fun v2 =>
    if v2 = 20 then
      m_X7_taskItem_24 σ x1 1
    else
      m_X7_taskItem_24 σ x1 0
  else
    m_X7_taskItem_24 σ x1 1
-- X7_personItem
def m_X7_personItem_141 (σ : zw_S) (x1 : Int32) (x2 : Int32) (x3 : Int32) : Option zw_S :=
  if σ 57 14 = 0 then
    cv (m_X7_isBorn σ x1 x2 x3) fun s2 =>
    some s2
  else
    some σ
def m_X7_personItem_94 (σ : zw_S) (x1 : Int32) (y0 : Int32) : Option zw_S :=
  cl (m_X7_takes 5 σ) fun r2 s1 =>
  if r2 = 0 then
    m_X7_personItem_141 s1 x1 y0 (-1)
  else
    cl (m_X7_isName s1 (s1 57 13)) fun r5 s4 =>
    if r5 = 0 then
      cl (m_X7_number s4 0 7 1) fun r8 s7 =>
      m_X7_personItem_141 s7 x1 y0 r8
    else
      cl (m_X7_bearer s4 (s4 57 13)) fun r10 s9 =>
      if 0 ≤ r10 then
        cl (m_X7_number s9 0 7 0) fun r13 s12 =>
        m_X7_personItem_141 s12 x1 y0 r13
      else
        cl (m_X7_number s9 0 7 1) fun r15 s14 =>
        m_X7_personItem_141 s14 x1 y0 r15
def m_X7_personItem_71 (σ : zw_S) (y0 : Int32) : Option zw_S :=
  cl (m_X7_takes 4 σ) fun r2 s1 =>
  if r2 = 0 then
    m_X7_personItem_94 s1 y0 0
  else
    cl (m_X7_number s1 0 39 1) fun r5 s4 =>
    m_X7_personItem_94 s4 y0 r5
def m_X7_personItem_34 (σ : zw_S) (y0 : Int32) : Option zw_S :=
  tt (zz y0) <|
  nm (zw_wr σ 57 14 y0) fun s2 =>
  if s2 57 14 = 0 then
    cv (m_X7_token s2) fun s4 =>
    cl (m_X7_takes 3 s4) fun r6 s5 =>
    if r6 = 0 then
      m_X7_personItem_71 s5 3
    else
      cl (m_X7_number s5 1 9 1) fun r9 s8 =>
      m_X7_personItem_71 s8 r9
  else
    some s2
def m_X7_personItem (σ : zw_S) : Option zw_S :=
  if σ 57 14 = 0 then
    cl (m_X7_isWord 2 σ) fun r3 s2 =>
    if r3 = 0 then
      m_X7_personItem_34 s2 1
    else
      rd s2 58 142 3 fun v5 =>
      if v5 = 8 then
        m_X7_personItem_34 s2 1
      else
        m_X7_personItem_34 s2 0
  else
    m_X7_personItem_34 σ 1
-- X7_item
def m_X7_item (σ : zw_S) : Option zw_S :=
  cl (m_X7_kindHere σ) fun r2 s1 =>
  cl (m_X7_takes 0 s1) fun r4 s3 =>
  if r4 = 0 then
    if r2 < 0 then
      cv (m_X7_personItem s3) fun s7 =>
      some s7
    else
      cv (m_X7_taskItem s3 r2) fun s8 =>
      some s8
  else
    cv (m_X7_nameItem s3) fun s9 =>
    some s9
-- X7_text
def m_X7_text_78 (σ : zw_S) (x1 : Int32) (y0 : Int32) : Option (Int32 × zw_S) :=
  tt (zz y0) <|
  nm (zw_wr σ 57 14 y0) fun s2 =>
  nm (s2 57 11) fun v3 =>
  nm (zw_wr s2 57 9 0) fun s4 =>
  if s4 57 14 = 0 then
    some (x1, s4)
  else
    cv (m_X7_row 60 58 s4) fun s6 =>
    some ((-1) - v3, s6)
def m_X7_text_58 (σ : zw_S) (x1 : Int32) : Option (Int32 × zw_S) :=
  if σ 57 14 = 0 then
    if σ 57 10 = 0 then
      m_X7_text_78 σ x1 0
    else
      m_X7_text_78 σ x1 1
  else
    m_X7_text_78 σ x1 1
def m_X7_text_29 : Nat → zw_S → Int32 → Int32 → Option (Int32 × zw_S)
  | 0, _, _, _ => none
  | n + 1, σ, x1, x2 =>
    if x2 = 0 then
      m_X7_text_58 σ x1
    else
      cv (m_X7_item σ) fun s2 =>
      nm (x1 + 1) fun v3 =>
      cl (m_X7_isSign s2 59) fun r5 s4 =>
      if r5 = 0 then
        m_X7_text_29 n s4 v3 r5
      else
        cv (m_X7_token s4) fun s7 =>
        m_X7_text_29 n s7 v3 r5
def m_X7_text (σ : zw_S) : Option (Int32 × zw_S) :=
  cv (m_X7_row 58 60 σ) fun s1 =>
  nm (zw_wr s1 57 12 0) fun s2 =>
  nm (zw_wr s2 57 14 0) fun s3 =>
  cv (m_X7_token s3) fun s4 =>
  m_X7_text_29 200 s4 0 1
-- X7_hold
def m_X7_hold_32 (σ : zw_S) (x1 : Int32) (x2 : Int32) : Option (Int32 × zw_S) :=
  wt σ 58 142 (132 + x1) x2 fun s1 =>
  some (1, s1)
def m_X7_hold (σ : zw_S) (x1 : Int32) (x2 : Int32) : Option (Int32 × zw_S) :=
  cl (m_X7_in σ x1.toInt64 0 9) fun r2 s1 =>
  if r2 = 0 then
    cl (m_X7_finds s1 (-1000001)) fun r5 s4 =>
    some (r5, s4)
  else
    if x2 = (-1) then
      m_X7_hold_32 s1 x1 x2
    else
      cl (m_X7_isTask s1 x2) fun r8 s7 =>
      if r8 = 0 then
        cl (m_X7_finds s7 (-1000001)) fun r11 s10 =>
        some (r11, s10)
      else
        m_X7_hold_32 s7 x1 x2
-- X7_above
def m_X7_above (σ : zw_S) (x0 : Int32) : Option (Int32 × zw_S) :=
  if x0 = 0 then
    some ((-1), σ)
  else
    if x0 = 1 then
      some (0, σ)
    else
      if x0 = 2 then
        some (0, σ)
      else
        if x0 = 3 then
          some (2, σ)
        else
          if x0 = 4 then
            some (0, σ)
          else
            if x0 = 5 then
              some (4, σ)
            else
              if x0 = 6 then
                some (1, σ)
              else
                some (0, σ)
-- X7_as
def m_X7_as_80 (σ : zw_S) : Option (Int32 × zw_S) :=
  cl (m_X7_finds σ (-1000003)) fun r2 s1 =>
  some (r2, s1)
def m_X7_as_57 : Nat → zw_S → Int32 → Int32 → Int32 → Option (Int32 × zw_S)
  | 0, _, _, _, _ => none
  | n + 1, σ, x2, x3, x4 =>
    if x4 < 0 then
      m_X7_as_80 σ
    else
      if x4 = x2 then
        some (x3, σ)
      else
        cl (m_X7_above σ x4) fun r4 s3 =>
        m_X7_as_57 n s3 x2 x3 r4
def m_X7_as (σ : zw_S) (x1 : Int32) (x2 : Int32) : Option (Int32 × zw_S) :=
  cl (m_X7_in σ x1.toInt64 0 9) fun r2 s1 =>
  if r2 = 0 then
    cl (m_X7_finds s1 (-1000001)) fun r5 s4 =>
    some (r5, s4)
  else
    cl (m_X7_isKind s1 x2) fun r7 s6 =>
    if r7 = 0 then
      cl (m_X7_finds s6 (-1000001)) fun r16 s15 =>
      some (r16, s15)
    else
      rd s6 58 142 (132 + x1) fun v9 =>
      if 0 ≤ v9 then
        cl (m_X7_task0 s6 v9 0) fun r12 s11 =>
        m_X7_as_57 200 s11 x2 v9 r12
      else
        cl (m_X7_finds s6 (-1000006)) fun r14 s13 =>
        some (r14, s13)
-- X7_isSheet
def m_X7_isSheet (σ : zw_S) (x0 : Int32) : Option (Int32 × zw_S) :=
  cl (m_X7_in σ x0.toInt64 0 3) fun r2 s1 =>
  tt (zz r2) <|
  some (r2, s1)
-- X7_sheet
def m_X7_sheet_111 (σ : zw_S) (x1 : Int32) : Option (Int32 × zw_S) :=
  rd σ 67 4 x1 fun v1 =>
  some (v1, σ)
def m_X7_sheet_85 : Nat → zw_S → Int32 → Int32 → Option (Int32 × zw_S)
  | 0, _, _, _ => none
  | n + 1, σ, x1, x4 =>
    if 40 ≤ x4 then
      m_X7_sheet_111 σ x1
    else
      wt σ 68 160 ((40 * x1) + x4) 0 fun s2 =>
      nm (x4 + 1) fun v3 =>
      m_X7_sheet_85 n s2 x1 v3
def m_X7_sheet_36 (σ : zw_S) (x1 : Int32) (x2 : Int32) (x3 : Int32) : Option (Int32 × zw_S) :=
  if 0 ≤ x3 then
    if x3 ≤ 40 then
      wt σ 66 4 x1 x2 fun s3 =>
      if x2 = 0 then
        wt s3 67 4 x1 0 fun s6 =>
        m_X7_sheet_85 200 s6 x1 0
      else
        wt s3 67 4 x1 x3 fun s5 =>
        m_X7_sheet_85 200 s5 x1 0
    else
      cl (m_X7_finds σ (-1000001)) fun r8 s7 =>
      some (r8, s7)
  else
    cl (m_X7_finds σ (-1000007)) fun r10 s9 =>
    some (r10, s9)
def m_X7_sheet (σ : zw_S) (x1 : Int32) (x2 : Int32) (x3 : Int32) : Option (Int32 × zw_S) :=
  cl (m_X7_isSheet σ x1) fun r2 s1 =>
  if r2 = 0 then
    cl (m_X7_finds s1 (-1000001)) fun r5 s4 =>
    some (r5, s4)
  else
    if x2 = 0 then
      m_X7_sheet_36 s1 x1 x2 x3
    else
      if x2 = 8 then
        m_X7_sheet_36 s1 x1 x2 x3
      else
        if x2 = 16 then
          m_X7_sheet_36 s1 x1 x2 x3
        else
          if x2 = 32 then
            m_X7_sheet_36 s1 x1 x2 x3
          else
            cl (m_X7_finds s1 (-1000001)) fun r11 s10 =>
            some (r11, s10)
-- X7_write
def m_X7_write (σ : zw_S) (x1 : Int32) (x2 : Int32) (x3 : Int32) : Option (Int32 × zw_S) :=
  cl (m_X7_isSheet σ x1) fun r2 s1 =>
  if r2 = 0 then
    cl (m_X7_finds s1 (-1000001)) fun r22 s21 =>
    some (r22, s21)
  else
    rd s1 66 4 x1 fun v4 =>
    if v4 = 0 then
      cl (m_X7_finds s1 (-1000006)) fun r20 s19 =>
      some (r20, s19)
    else
      rd s1 67 4 x1 fun v6 =>
      cl (m_X7_in s1 x2.toInt64 0 ((v6 - 1).toInt64)) fun r8 s7 =>
      if r8 = 0 then
        cl (m_X7_finds s7 (-1000001)) fun r18 s17 =>
        some (r18, s17)
      else
        rd s7 66 4 x1 fun v10 =>
        if v10 = 8 then
          wt s7 68 160 ((40 * x1) + x2) x3.toInt8.toInt32 fun s16 =>
          some (1, s16)
        else
          rd s7 66 4 x1 fun v12 =>
          if v12 = 16 then
            wt s7 68 160 ((40 * x1) + x2) x3.toInt16.toInt32 fun s15 =>
            some (1, s15)
          else
            wt s7 68 160 ((40 * x1) + x2) x3 fun s14 =>
            some (1, s14)
-- X7_copy
def m_X7_copy_163 (R139 : zw_S → Int32 → Int32 → Int32 → Int32 → Int32 → Int32 → Int32 → Option (Int32 × zw_S)) (σ : zw_S) (x1 : Int32) (x2 : Int32) (x3 : Int32) (x4 : Int32) (x5 : Int32) (x6 : Int32) (x7 : Int32) (y0 : Int32) : Option (Int32 × zw_S) :=
  rd σ 68 160 (((40 * x1) + x2) + y0) fun v1 =>
  wt σ 68 160 (((40 * x3) + x4) + y0) v1 fun s2 =>
  nm (x7 + 1) fun v3 =>
  R139 s2 x1 x2 x3 x4 x5 x6 v3
def m_X7_copy_139 : Nat → zw_S → Int32 → Int32 → Int32 → Int32 → Int32 → Int32 → Int32 → Option (Int32 × zw_S)
  | 0, _, _, _, _, _, _, _, _ => none
  | n + 1, σ, x1, x2, x3, x4, x5, x6, x7 =>
    if x5 ≤ x7 then
      some (x5, σ)
    else
      if x6 = 0 then
        m_X7_copy_163 (m_X7_copy_139 n) σ x1 x2 x3 x4 x5 x6 x7 x7
      else
        m_X7_copy_163 (m_X7_copy_139 n) σ x1 x2 x3 x4 x5 x6 x7 ((x5 - 1) - x7)
def m_X7_copy (σ : zw_S) (x1 : Int32) (x2 : Int32) (x3 : Int32) (x4 : Int32) (x5 : Int32) : Option (Int32 × zw_S) :=
  cl (m_X7_isSheet σ x1) fun r2 s1 =>
  if r2 = 0 then
    cl (m_X7_finds s1 (-1000001)) fun r5 s4 =>
    some (r5, s4)
  else
    cl (m_X7_isSheet s1 x3) fun r7 s6 =>
    if r7 = 0 then
      cl (m_X7_finds s6 (-1000001)) fun r42 s41 =>
      some (r42, s41)
    else
      rd s6 66 4 x1 fun v9 =>
      if v9 = 0 then
        cl (m_X7_finds s6 (-1000006)) fun r12 s11 =>
        some (r12, s11)
      else
        rd s6 66 4 x3 fun v13 =>
        if v13 = 0 then
          cl (m_X7_finds s6 (-1000006)) fun r40 s39 =>
          some (r40, s39)
        else
          rd s6 66 4 x1 fun v15 =>
          rd s6 66 4 x3 fun v16 =>
          if v15 = v16 then
            if x5 < 0 then
              cl (m_X7_finds s6 (-1000001)) fun r20 s19 =>
              some (r20, s19)
            else
              if x2 < 0 then
                cl (m_X7_finds s6 (-1000001)) fun r23 s22 =>
                some (r23, s22)
              else
                if x4 < 0 then
                  cl (m_X7_finds s6 (-1000001)) fun r26 s25 =>
                  some (r26, s25)
                else
                  rd s6 67 4 x1 fun v27 =>
                  if v27 - x2 < x5 then
                    cl (m_X7_finds s6 (-1000001)) fun r30 s29 =>
                    some (r30, s29)
                  else
                    rd s6 67 4 x3 fun v31 =>
                    if x5 ≤ v31 - x4 then
                      if x1 = x3 then
                        if x4 ≤ x2 then
                          m_X7_copy_139 200 s6 x1 x2 x3 x4 x5 0 0
                        else
                          m_X7_copy_139 200 s6 x1 x2 x3 x4 x5 1 0
                      else
                        m_X7_copy_139 200 s6 x1 x2 x3 x4 x5 0 0
                    else
                      cl (m_X7_finds s6 (-1000001)) fun r36 s35 =>
                      some (r36, s35)
          else
            cl (m_X7_finds s6 (-1000003)) fun r38 s37 =>
            some (r38, s37)
-- X7_load
def m_X7_load_33 : Nat → zw_S → Int32 → Int32 → Option (Int32 × zw_S)
  | 0, _, _, _ => none
  | n + 1, σ, x1, x2 =>
    rd σ 67 4 x1 fun v1 =>
    if v1 ≤ x2 then
      some (x2, σ)
    else
      rd σ 68 160 ((40 * x1) + x2) fun v3 =>
      cl (m_X7_wrongTake σ x2 v3) fun r5 s4 =>
      if r5 = 0 then
        rd s4 68 160 ((40 * x1) + x2) fun v7 =>
        wt s4 58 142 (100 + (4 * x2)) v7 fun s8 =>
        nm (x2 + 1) fun v9 =>
        m_X7_load_33 n s8 x1 v9
      else
        some (x2, s4)
def m_X7_load (σ : zw_S) (x1 : Int32) : Option (Int32 × zw_S) :=
  cl (m_X7_isSheet σ x1) fun r2 s1 =>
  if r2 = 0 then
    cl (m_X7_finds s1 (-1000001)) fun r9 s8 =>
    some (r9, s8)
  else
    rd s1 66 4 x1 fun v4 =>
    if v4 = 0 then
      cl (m_X7_finds s1 (-1000006)) fun r7 s6 =>
      some (r7, s6)
    else
      m_X7_load_33 200 s1 x1 0
-- X7_judge
def m_X7_judge_154 (σ : zw_S) (x3 : Int32) (y0 : Int32) : Option (Int32 × zw_S) :=
  cv (m_X7_row 60 58 σ) fun s1 =>
  if y0 = 0 then
    some (1 + x3, s1)
  else
    some (0, s1)
def m_X7_judge_129 (σ : zw_S) (x1 : Int32) (x3 : Int32) : Option (Int32 × zw_S) :=
  rd σ 67 4 x1 fun v1 =>
  if x3 = v1 then
    rd σ 58 142 2 fun v3 =>
    if x3 = v3 then
      m_X7_judge_154 σ x3 1
    else
      m_X7_judge_154 σ x3 0
  else
    m_X7_judge_154 σ x3 0
def m_X7_judge_83 : Nat → zw_S → Int32 → Int32 → Option (Int32 × zw_S)
  | 0, _, _, _ => none
  | n + 1, σ, x1, x3 =>
    rd σ 67 4 x1 fun v1 =>
    if v1 ≤ x3 then
      m_X7_judge_129 σ x1 x3
    else
      rd σ 58 142 2 fun v3 =>
      if v3 ≤ x3 then
        m_X7_judge_129 σ x1 x3
      else
        rd σ 68 160 ((40 * x1) + x3) fun v5 =>
        cl (m_X7_task0 σ x3 2) fun r7 s6 =>
        if v5 = r7 then
          nm (x3 + 1) fun v9 =>
          m_X7_judge_83 n s6 x1 v9
        else
          m_X7_judge_129 s6 x1 x3
def m_X7_judge (σ : zw_S) (x1 : Int32) (x2 : Int32) : Option (Int32 × zw_S) :=
  cl (m_X7_isSheet σ x1) fun r2 s1 =>
  if r2 = 0 then
    cl (m_X7_finds s1 (-1000001)) fun r21 s20 =>
    some (r21, s20)
  else
    rd s1 66 4 x1 fun v4 =>
    if v4 = 0 then
      cl (m_X7_finds s1 (-1000006)) fun r19 s18 =>
      some (r19, s18)
    else
      cl (m_X7_in s1 x2.toInt64 0 60) fun r7 s6 =>
      if r7 = 0 then
        cl (m_X7_finds s6 (-1000001)) fun r17 s16 =>
        some (r17, s16)
      else
        cl (m_X7_isFarOn s6 x2) fun r10 s9 =>
        if r10 = 0 then
          cv (m_X7_row 58 60 s9) fun s12 =>
          cv (m_X7_yearsGo s12 x2) fun s13 =>
          m_X7_judge_83 200 s13 x1 0
        else
          cl (m_X7_finds s9 (-1000005)) fun r15 s14 =>
          some (r15, s14)
-- X7_image
def m_X7_image (σ : zw_S) : Option (Int32 × zw_S) :=
  cv (m_X7_row 58 59 σ) fun s1 =>
  nm (zw_wr s1 57 4 1) fun s2 =>
  some (1, s2)
-- X7_undo
def m_X7_undo (σ : zw_S) : Option (Int32 × zw_S) :=
  if σ 57 4 = 0 then
    cl (m_X7_finds σ (-1000004)) fun r5 s4 =>
    some (r5, s4)
  else
    cv (m_X7_row 59 58 σ) fun s2 =>
    rd s2 58 142 0 fun v3 =>
    some (v3, s2)
-- X7_tear
def m_X7_tear (σ : zw_S) : Option (Int32 × zw_S) :=
  if σ 57 4 = 0 then
    nm (zw_wr σ 57 4 0) fun s2 =>
    some (0, s2)
  else
    nm (zw_wr σ 57 4 0) fun s3 =>
    some (1, s3)
-- X7_count
def m_X7_count (σ : zw_S) (x1 : Int32) : Option (Int32 × zw_S) :=
  if x1 = 0 then
    rd σ 58 142 0 fun v2 =>
    some (v2, σ)
  else
    if x1 = 1 then
      rd σ 58 142 2 fun v4 =>
      some (v4, σ)
    else
      if x1 = 2 then
        cl (m_X7_unended σ) fun r7 s6 =>
        some (r7, s6)
      else
        if x1 = 3 then
          rd σ 58 142 3 fun v9 =>
          some (v9, σ)
        else
          if x1 = 4 then
            cl (m_X7_endedWorth σ) fun r12 s11 =>
            some (r12, s11)
          else
            if x1 = 5 then
              cl (m_X7_hours σ) fun r15 s14 =>
              some (r15, s14)
            else
              if x1 = 6 then
                some (σ 57 9, σ)
              else
                if x1 = 7 then
                  rd σ 58 142 1 fun v18 =>
                  some (v18, σ)
                else
                  cl (m_X7_finds σ (-1000001)) fun r20 s19 =>
                  some (r20, s19)
-- X7_status
def m_X7_status_41 (R25 : zw_S → Int32 → Int32 → Int32 → Option (Int32 × zw_S)) (σ : zw_S) (x1 : Int32) (x3 : Int32) (y0 : Int32) : Option (Int32 × zw_S) :=
  rd σ 62 7 x3 fun v1 =>
  nm (y0 + v1) fun v2 =>
  nm (x3 + 1) fun v3 =>
  R25 σ x1 v2 v3
def m_X7_status_25 : Nat → zw_S → Int32 → Int32 → Int32 → Option (Int32 × zw_S)
  | 0, _, _, _, _ => none
  | n + 1, σ, x1, x2, x3 =>
    if 7 ≤ x3 then
      some (x2, σ)
    else
      if x1 < 0 then
        m_X7_status_41 (m_X7_status_25 n) σ x1 x3 x2
      else
        if x1 = x3 then
          m_X7_status_41 (m_X7_status_25 n) σ x1 x3 x2
        else
          nm (x2 + 0) fun v4 =>
          nm (x3 + 1) fun v5 =>
          m_X7_status_25 n σ x1 v4 v5
def m_X7_status (σ : zw_S) (x1 : Int32) : Option (Int32 × zw_S) :=
  cl (m_X7_in σ x1.toInt64 (-1) 6) fun r2 s1 =>
  if r2 = 0 then
    cl (m_X7_finds s1 (-1000001)) fun r5 s4 =>
    some (r5, s4)
  else
    m_X7_status_25 200 s1 x1 0 0
