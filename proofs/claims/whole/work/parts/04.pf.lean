def pf_X7_init (G : Nat → ClassId) (N : Nat) (S : mw_M) (h0 : Nat) : Option (mw_M) :=
  mw_b2 (mw_na S (G 2) 40 40) fun v1 S1 =>
  (mw_pf S1 h0 7 0 (.ref v1)).bind fun S2 =>
  some S2
def pf_X6_init (G : Nat → ClassId) (N : Nat) (S : mw_M) (h0 : Nat) : Option (mw_M) :=
  mw_b2 (mw_na S (G 2) 192 192) fun v1 S1 =>
  (mw_pf S1 h0 6 0 (.ref v1)).bind fun S2 =>
  mw_b2 (mw_na S2 (G 0) 24 24) fun v3 S3 =>
  (mw_pf S3 h0 6 1 (.ref v3)).bind fun S4 =>
  some S4
def pf_X0_init (G : Nat → ClassId) (N : Nat) (S : mw_M) (h0 : Nat) (x1 : Int32) : Option (mw_M) :=
  mw_b2 (mw_na S (G 1) 5000 x1) fun v1 S1 =>
  (mw_pf S1 h0 0 0 (.ref v1)).bind fun S2 =>
  some S2
def pf_X3_init (G : Nat → ClassId) (N : Nat) (S : mw_M) (h0 : Nat) (x1 : Int32) : Option (mw_M) :=
  mw_b2 (mw_na S (G 0) 3 3) fun v1 S1 =>
  (mw_pf S1 h0 3 0 (.ref v1)).bind fun S2 =>
  mw_b2 (mw_no S2 0 [.null, .int 0]) fun v3 S3 =>
  (pf_X0_init G N S3 v3 x1).bind fun S4 =>
  (mw_pf S4 h0 3 1 (.ref v3)).bind fun S5 =>
  some S5
def pf_X5_init (G : Nat → ClassId) (N : Nat) (S : mw_M) (h0 : Nat) : Option (mw_M) :=
  mw_b2 (mw_na S (G 3) 6 6) fun v1 S1 =>
  (mw_pf S1 h0 5 0 (.ref v1)).bind fun S2 =>
  mw_b2 (mw_na S2 (G 0) 6 6) fun v3 S3 =>
  (mw_pf S3 h0 5 1 (.ref v3)).bind fun S4 =>
  (mw_pf S4 h0 5 2 (.int 0)).bind fun S5 =>
  (mw_pf S5 h0 5 4 (.int 2147483647)).bind fun S6 =>
  some S6
def pf_X4_init_14 (G : Nat → ClassId) (N : Nat) : Nat → Nat → Int32 → Int32 → Int32 → mw_M → Option (mw_M)
  | 0, _, _, _, _, _ => none
  | n + 1, y0, y1, y2, y3, S =>
    if y1 ≤ y3 then
      some S
    else
      (mw_gr S y0 4 0).bind fun v1 =>
      mw_b2 (mw_no S 0 [.null, .int 0]) fun v2 S2 =>
      (pf_X0_init G N S2 v2 y2).bind fun S3 =>
      (mw_sq S3 v1 (G 6) 0 y3 v2).bind fun S4 =>
      pf_X4_init_14 G N n y0 y1 y2 (y3 + 1) S4
def pf_X4_init (G : Nat → ClassId) (N : Nat) (S : mw_M) (h0 : Nat) (x1 : Int32) (x2 : Int32) : Option (mw_M) :=
  mw_b2 (mw_nq S (G 6) 5000 x1) fun v1 S1 =>
  (mw_pf S1 h0 4 0 (.ref v1)).bind fun S2 =>
  pf_X4_init_14 G N 8 h0 x1 x2 0 S2
def pf_X1_init (G : Nat → ClassId) (N : Nat) (S : mw_M) (h0 : Nat) (x1 : Int32) : Option (mw_M) :=
  mw_b2 (mw_no S 0 [.null, .int 0]) fun v1 S1 =>
  (pf_X0_init G N S1 v1 x1).bind fun S2 =>
  (mw_pf S2 h0 1 0 (.ref v1)).bind fun S3 =>
  mw_b2 (mw_na S3 (G 3) 24 24) fun v4 S4 =>
  (mw_pf S4 h0 1 1 (.ref v4)).bind fun S5 =>
  some S5
def pf_X0_clear (G : Nat → ClassId) (N : Nat) (S : mw_M) (h0 : Nat) : Option (mw_M) :=
  (mw_pf S h0 0 1 (.int 0)).bind fun S1 =>
  some S1
def pf_X1_openAs_9 (G : Nat → ClassId) (N : Nat) : Nat → Nat → Int32 → Int32 → Int32 → mw_M → Option (mw_M)
  | 0, _, _, _, _, _ => none
  | n + 1, y0, y1, y2, y3, S =>
    if 24 ≤ y3 then
      (mw_pf S y0 1 2 (.int y1)).bind fun S1 =>
      (mw_pf S1 y0 1 3 (.int y2)).bind fun S2 =>
      (mw_pf S2 y0 1 4 (.int 0)).bind fun S3 =>
      some S3
    else
      (mw_gr S y0 1 1).bind fun v4 =>
      (mw_si S v4 (G 3) y3 (vp_nar .boolean 0)).bind fun S5 =>
      pf_X1_openAs_9 G N n y0 y1 y2 (y3 + 1) S5
def pf_X1_openAs (G : Nat → ClassId) (N : Nat) (S : mw_M) (h0 : Nat) (x1 : Int32) (x2 : Int32) : Option (mw_M) :=
  (mw_gr S h0 1 0).bind fun v1 =>
  (mw_v S v1 0 (pf_X0_clear G N S v1)).bind fun S2 =>
  pf_X1_openAs_9 G N N h0 x1 x2 0 S2
def pf_X2_init_16 (G : Nat → ClassId) (N : Nat) : Nat → Nat → Int32 → Int32 → Int32 → mw_M → Option (mw_M)
  | 0, _, _, _, _, _ => none
  | n + 1, y0, y1, y2, y3, S =>
    if y1 < y3 then
      (mw_gr S y0 2 0).bind fun v1 =>
      (mw_aq S v1 (G 7) 0).bind fun v2 =>
      (mw_v S v2 1 (pf_X1_openAs G N S v2 1 0)).bind fun S3 =>
      some S3
    else
      (mw_gr S y0 2 0).bind fun v4 =>
      mw_b2 (mw_no S 1 [.null, .null, .int 0, .int 0, .int 0]) fun v5 S5 =>
      (pf_X1_init G N S5 v5 y2).bind fun S6 =>
      (mw_sq S6 v4 (G 7) 1 y3 v5).bind fun S7 =>
      pf_X2_init_16 G N n y0 y1 y2 (y3 + 1) S7
def pf_X2_init (G : Nat → ClassId) (N : Nat) (S : mw_M) (h0 : Nat) (x1 : Int32) (x2 : Int32) : Option (mw_M) :=
  mw_b2 (mw_nq S (G 7) 5000 (x1 + 1)) fun v1 S1 =>
  (mw_pf S1 h0 2 0 (.ref v1)).bind fun S2 =>
  pf_X2_init_16 G N 8 h0 x1 x2 0 S2
def pf_X8_init_149 (G : Nat → ClassId) (N : Nat) : Nat → Nat → Int32 → Int32 → Int32 → Int32 → mw_M → Option (mw_M)
  | 0, _, _, _, _, _, _ => none
  | n + 1, y0, y4, y5, y6, y7, S =>
    if 4 ≤ y7 then
      mw_b2 (mw_no S 4 [.null, .int 0, .int 0]) fun v1 S1 =>
      (mw_gi S1 y0 8 0).bind fun v2 =>
      (pf_X4_init G N S1 v1 y4 v2).bind fun S3 =>
      (mw_pf S3 y0 8 9 (.ref v1)).bind fun S4 =>
      mw_b2 (mw_no S4 2 [.null, .int 0, .int 0]) fun v5 S5 =>
      (pf_X2_init G N S5 v5 y5 y6).bind fun S6 =>
      (mw_pf S6 y0 8 10 (.ref v5)).bind fun S7 =>
      mw_b2 (mw_no S7 0 [.null, .int 0]) fun v8 S8 =>
      (pf_X0_init G N S8 v8 27).bind fun S9 =>
      (mw_pf S9 y0 8 11 (.ref v8)).bind fun S10 =>
      mw_b2 (mw_no S10 0 [.null, .int 0]) fun v11 S11 =>
      (pf_X0_init G N S11 v11 (y5 * (y6 + 258))).bind fun S12 =>
      (mw_pf S12 y0 8 12 (.ref v11)).bind fun S13 =>
      some S13
    else
      (mw_gr S y0 8 7).bind fun v14 =>
      mw_b2 (mw_no S 5 [.null, .null, .int 0, .int 0, .int 0]) fun v15 S15 =>
      (pf_X5_init G N S15 v15).bind fun S16 =>
      (mw_sq S16 v14 (G 5) 5 y7 v15).bind fun S17 =>
      pf_X8_init_149 G N n y0 y4 y5 y6 (y7 + 1) S17
def pf_X8_init_92 (G : Nat → ClassId) (N : Nat) : Nat → Nat → Int32 → Int32 → Int32 → Int32 → mw_M → Option (mw_M)
  | 0, _, _, _, _, _, _ => none
  | n + 1, y0, y4, y5, y6, y7, S =>
    if 3 ≤ y7 then
      mw_b2 (mw_na S (G 0) 6 6) fun v1 S1 =>
      (mw_pf S1 y0 8 4 (.ref v1)).bind fun S2 =>
      mw_b2 (mw_na S2 (G 3) 6 6) fun v3 S3 =>
      (mw_pf S3 y0 8 5 (.ref v3)).bind fun S4 =>
      mw_b2 (mw_nq S4 (G 5) 4 4) fun v5 S5 =>
      (mw_pf S5 y0 8 7 (.ref v5)).bind fun S6 =>
      pf_X8_init_149 G N 8 y0 y4 y5 y6 0 S6
    else
      (mw_gr S y0 8 3).bind fun v7 =>
      mw_b2 (mw_no S 3 [.null, .null, .int 0, .int 0, .int 0]) fun v8 S8 =>
      (mw_gi S8 y0 8 0).bind fun v9 =>
      (pf_X3_init G N S8 v8 v9).bind fun S10 =>
      (mw_sq S10 v7 (G 4) 3 y7 v8).bind fun S11 =>
      pf_X8_init_92 G N n y0 y4 y5 y6 (y7 + 1) S11
def pf_X8_init (G : Nat → ClassId) (N : Nat) (S : mw_M) (h0 : Nat) (x1 : Int32) (x2 : Int32) (x3 : Int32) : Option (mw_M) :=
  (mw_pf S h0 8 0 (.int (if 16 < (if 60 < x1 then 60 else x1) then (if 60 < x1 then 60 else x1) else 16))).bind fun S1 =>
  (mw_gi S1 h0 8 0).bind fun v2 =>
  mw_b2 (mw_no S1 7 [.null, .int 0]) fun v3 S3 =>
  (pf_X7_init G N S3 v3).bind fun S4 =>
  (mw_pf S4 h0 8 1 (.ref v3)).bind fun S5 =>
  mw_b2 (mw_no S5 6 [.null, .null, .int 0]) fun v6 S6 =>
  (pf_X6_init G N S6 v6).bind fun S7 =>
  (mw_pf S7 h0 8 2 (.ref v6)).bind fun S8 =>
  mw_b2 (mw_nq S8 (G 4) 3 3) fun v9 S9 =>
  (mw_pf S9 h0 8 3 (.ref v9)).bind fun S10 =>
  pf_X8_init_92 G N 8 h0 (if 0 < (if 4 < x2 then 4 else x2) then (if 4 < x2 then 4 else x2) else 0) (if 1 < (if 5 < x3 then 5 else x3) then (if 5 < x3 then 5 else x3) else 1) ((150 + (((if 0 < (if 4 < x2 then 4 else x2) then (if 4 < x2 then 4 else x2) else 0) + 3) * v2)) + 24) 0 S10
def pf_X7_append (G : Nat → ClassId) (N : Nat) (S : mw_M) (h0 : Nat) (x1 : Int32) : Option (Int32 × mw_M) :=
  (mw_gi S h0 7 1).bind fun v1 =>
  if 40 ≤ v1 then
    if vp_nar .boolean 0 = 0 then some (0, S) else none
  else
    if x1 < 32 then
      if vp_nar .boolean 0 = 0 then some (0, S) else none
    else
      if x1 ≤ 126 then
        (mw_gr S h0 7 0).bind fun v2 =>
        (mw_gi S h0 7 1).bind fun v3 =>
        (mw_si S v2 (G 2) v3 (vp_nar .char x1)).bind fun S4 =>
        (mw_gi S4 h0 7 1).bind fun v5 =>
        (mw_pf S4 h0 7 1 (.int (v5 + 1))).bind fun S6 =>
        if vp_nar .boolean 1 = 1 then some (1, S6) else none
      else
        if vp_nar .boolean 0 = 0 then some (0, S) else none
def pf_X8_write (G : Nat → ClassId) (N : Nat) (S : mw_M) (h0 : Nat) (x1 : Int32) : Option (Int32 × mw_M) :=
  (mw_gr S h0 8 1).bind fun v1 =>
  mw_b2 (mw_v S v1 7 (pf_X7_append G N S v1 x1)) fun v2 S2 =>
  if vp_nar .boolean v2 = v2 then some (v2, S2) else none
def pf_X8_advance (G : Nat → ClassId) (N : Nat) (S : mw_M) (h0 : Nat) (x1 : Int32) : Option (Int32 × mw_M) :=
  if x1 < 0 then
    (mw_gi S h0 8 13).bind fun v1 =>
    some (v1, S)
  else
    if 1000 < x1 then
      (mw_gi S h0 8 13).bind fun v2 =>
      some (v2, S)
    else
      (mw_gi S h0 8 13).bind fun v3 =>
      (mw_pf S h0 8 13 (.int (v3 + x1))).bind fun S4 =>
      (mw_gi S4 h0 8 13).bind fun v5 =>
      some (v5, S4)
def pf_X8_type_9 (G : Nat → ClassId) (N : Nat) (S : mw_M) : Option (Nat × Int32 × mw_M) :=
  some (1, 0, S)
def pf_X8_type (G : Nat → ClassId) (N : Nat) (S : mw_M) (h0 : Nat) (x1 : Int32) (x2 : Int32) : Option (Nat × Int32 × mw_M) :=
  if x1 < 0 then
    pf_X8_type_9 G N S
  else
    if x1 ≤ 3 then
      (mw_gi S h0 8 6).bind fun v1 =>
      if v1 < 6 then
        (mw_gr S h0 8 4).bind fun v2 =>
        (mw_gi S h0 8 6).bind fun v3 =>
        (mw_si S v2 (G 0) v3 x1).bind fun S4 =>
        (mw_gr S4 h0 8 5).bind fun v5 =>
        (mw_gi S4 h0 8 6).bind fun v6 =>
        (mw_si S4 v5 (G 3) v6 (vp_nar .boolean x2)).bind fun S7 =>
        (mw_gi S7 h0 8 6).bind fun v8 =>
        (mw_pf S7 h0 8 6 (.int (v8 + 1))).bind fun S9 =>
        (mw_gi S9 h0 8 6).bind fun v10 =>
        some (0, (v10 - 1), S9)
      else
        some (2, 0, S)
    else
      pf_X8_type_9 G N S
def pf_X8_isThread (G : Nat → ClassId) (N : Nat) (S : mw_M) (x0 : Int32) : Option (Int32 × mw_M) :=
  if x0 < 0 then
    if vp_nar .boolean 0 = 0 then some (0, S) else none
  else
    if 3 ≤ x0 then
      if vp_nar .boolean 0 = 0 then some (0, S) else none
    else
      if vp_nar .boolean 1 = 1 then some (1, S) else none
def pf_X3_beginAt (G : Nat → ClassId) (N : Nat) (S : mw_M) (h0 : Nat) (x1 : Int32) : Option (Int32 × mw_M) :=
  (mw_gi S h0 3 2).bind fun v1 =>
  if v1 < 3 then
    (mw_gr S h0 3 0).bind fun v2 =>
    (mw_gi S h0 3 2).bind fun v3 =>
    (mw_si S v2 (G 0) v3 x1).bind fun S4 =>
    (mw_gi S4 h0 3 2).bind fun v5 =>
    (mw_pf S4 h0 3 2 (.int (v5 + 1))).bind fun S6 =>
    if vp_nar .boolean 1 = 1 then some (1, S6) else none
  else
    if vp_nar .boolean 0 = 0 then some (0, S) else none
def pf_X8_begin (G : Nat → ClassId) (N : Nat) (S : mw_M) (h0 : Nat) (x1 : Int32) : Option (Int32 × mw_M) :=
  mw_b2 (pf_X8_isThread G N S x1) fun v1 S1 =>
  if v1 = 0 then
    if vp_nar .boolean 0 = 0 then some (0, S1) else none
  else
    (mw_gr S1 h0 8 3).bind fun v2 =>
    (mw_aq S1 v2 (G 4) x1).bind fun v3 =>
    (mw_gi S1 h0 8 13).bind fun v4 =>
    mw_b2 (mw_v S1 v3 3 (pf_X3_beginAt G N S1 v3 v4)) fun v5 S5 =>
    if v5 = 0 then
      if vp_nar .boolean 0 = 0 then some (0, S5) else none
    else
      if vp_nar .boolean 1 = 1 then some (1, S5) else none
def pf_X8_isType (G : Nat → ClassId) (N : Nat) (S : mw_M) (h0 : Nat) (x1 : Int32) : Option (Int32 × mw_M) :=
  if x1 < 0 then
    if vp_nar .boolean 0 = 0 then some (0, S) else none
  else
    (mw_gi S h0 8 6).bind fun v1 =>
    if v1 ≤ x1 then
      if vp_nar .boolean 0 = 0 then some (0, S) else none
    else
      if vp_nar .boolean 1 = 1 then some (1, S) else none
def pf_X3_hasBegun (G : Nat → ClassId) (N : Nat) (S : mw_M) (h0 : Nat) : Option (Int32 × mw_M) :=
  (mw_gi S h0 3 2).bind fun v1 =>
  if v1 ≤ 0 then
    if vp_nar .boolean 0 = 0 then some (0, S) else none
  else
    if vp_nar .boolean 1 = 1 then some (1, S) else none
def pf_X3_endLatest (G : Nat → ClassId) (N : Nat) (S : mw_M) (h0 : Nat) : Option (Int32 × mw_M) :=
  (mw_gi S h0 3 2).bind fun v1 =>
  if 0 < v1 then
    (mw_gi S h0 3 2).bind fun v2 =>
    (mw_pf S h0 3 2 (.int (v2 - 1))).bind fun S3 =>
    (mw_gr S3 h0 3 0).bind fun v4 =>
    (mw_gi S3 h0 3 2).bind fun v5 =>
    (mw_ai S3 v4 (G 0) v5).bind fun v6 =>
    some (v6, S3)
  else
    some ((-1), S)
def pf_X5_is (G : Nat → ClassId) (N : Nat) (S : mw_M) (h0 : Nat) (x1 : Int32) : Option (Int32 × mw_M) :=
  (mw_gi S h0 5 2).bind fun v1 =>
  if ¬ v1 = x1 then
    if vp_nar .boolean 0 = 0 then some (0, S) else none
  else
    if vp_nar .boolean 1 = 1 then some (1, S) else none
def pf_X5_isOn (G : Nat → ClassId) (N : Nat) (S : mw_M) (h0 : Nat) (x1 : Int32) : Option (Int32 × mw_M) :=
  if x1 < 0 then
    if vp_nar .boolean 0 = 0 then some (0, S) else none
  else
    if 6 ≤ x1 then
      if vp_nar .boolean 0 = 0 then some (0, S) else none
    else
      (mw_gr S h0 5 0).bind fun v1 =>
      (mw_ai S v1 (G 3) x1).bind fun v2 =>
      if ¬ v2 = 0 then
        if vp_nar .boolean 0 = 0 then some (0, S) else none
      else
        if vp_nar .boolean 1 = 1 then some (1, S) else none
def pf_X5_leastDuration (G : Nat → ClassId) (N : Nat) (S : mw_M) (h0 : Nat) (x1 : Int32) : Option (Int32 × mw_M) :=
  if x1 < 0 then
    some ((-1), S)
  else
    if 6 ≤ x1 then
      some ((-1), S)
    else
      (mw_gr S h0 5 1).bind fun v1 =>
      (mw_ai S v1 (G 0) x1).bind fun v2 =>
      some (v2, S)
def pf_X8_interestIn_5 (G : Nat → ClassId) (N : Nat) : Nat → Nat → Int32 → Int32 → Int32 → Int32 → mw_M → Option (Int32 × mw_M)
  | 0, _, _, _, _, _, _ => none
  | n + 1, y0, y1, y2, y3, y4, S =>
    (mw_gi S y0 8 8).bind fun v1 =>
    if v1 ≤ y4 then
      some (y3, S)
    else
      (mw_gr S y0 8 7).bind fun v2 =>
      (mw_aq S v2 (G 5) y4).bind fun v3 =>
      mw_b2 (mw_v S v3 5 (pf_X5_is G N S v3 1)) fun v4 S4 =>
      if v4 = 0 then
        pf_X8_interestIn_5 G N n y0 y1 y2 y3 (y4 + 1) S4
      else
        mw_b2 (mw_v S4 v3 5 (pf_X5_isOn G N S4 v3 y1)) fun v5 S5 =>
        if v5 = 0 then
          pf_X8_interestIn_5 G N n y0 y1 y2 y3 (y4 + 1) S5
        else
          mw_b2 (mw_v S5 v3 5 (pf_X5_leastDuration G N S5 v3 y1)) fun v6 S6 =>
          if y2 < v6 then
            pf_X8_interestIn_5 G N n y0 y1 y2 3 (y4 + 1) S6
          else
            some (0, S6)
def pf_X8_interestIn (G : Nat → ClassId) (N : Nat) (S : mw_M) (h0 : Nat) (x1 : Int32) (x2 : Int32) : Option (Int32 × mw_M) :=
  pf_X8_interestIn_5 G N N h0 x1 x2 2 0 S
def pf_X7_length (G : Nat → ClassId) (N : Nat) (S : mw_M) (h0 : Nat) : Option (Int32 × mw_M) :=
  (mw_gi S h0 7 1).bind fun v1 =>
  some (v1, S)
def pf_X6_usedLength (G : Nat → ClassId) (N : Nat) (S : mw_M) (x0 : Nat) : Option (Int32 × mw_M) :=
  mw_b2 (mw_v S x0 7 (pf_X7_length G N S x0)) fun v1 S1 =>
  some ((if 8 < v1 then 8 else v1), S1)
def pf_X7_at (G : Nat → ClassId) (N : Nat) (S : mw_M) (h0 : Nat) (x1 : Int32) : Option (Int32 × mw_M) :=
  if x1 < 0 then
    if vp_nar .char 0 = 0 then some (0, S) else none
  else
    (mw_gi S h0 7 1).bind fun v1 =>
    if v1 ≤ x1 then
      if vp_nar .char 0 = 0 then some (0, S) else none
    else
      (mw_gr S h0 7 0).bind fun v2 =>
      (mw_ai S v2 (G 2) x1).bind fun v3 =>
      if vp_nar .char v3 = v3 then some (v3, S) else none
def pf_X6_isSame_17 (G : Nat → ClassId) (N : Nat) : Nat → Nat → Int32 → Nat → Int32 → mw_M → Option (Int32 × mw_M)
  | 0, _, _, _, _, _ => none
  | n + 1, y0, y1, y2, y3, S =>
    (mw_gr S y0 6 1).bind fun v1 =>
    (mw_ai S v1 (G 0) y1).bind fun v2 =>
    if v2 ≤ y3 then
      if vp_nar .boolean 1 = 1 then some (1, S) else none
    else
      (mw_gr S y0 6 0).bind fun v3 =>
      (mw_ai S v3 (G 2) ((y1 * 8) + y3)).bind fun v4 =>
      mw_b2 (mw_v S y2 7 (pf_X7_at G N S y2 y3)) fun v5 S5 =>
      if v4 = v5 then
        pf_X6_isSame_17 G N n y0 y1 y2 (y3 + 1) S5
      else
        if vp_nar .boolean 0 = 0 then some (0, S5) else none
def pf_X6_isSame (G : Nat → ClassId) (N : Nat) (S : mw_M) (h0 : Nat) (x1 : Int32) (x2 : Nat) : Option (Int32 × mw_M) :=
  (mw_gr S h0 6 1).bind fun v1 =>
  (mw_ai S v1 (G 0) x1).bind fun v2 =>
  mw_b2 (pf_X6_usedLength G N S x2) fun v3 S3 =>
  if v2 = v3 then
    pf_X6_isSame_17 G N N h0 x1 x2 0 S3
  else
    if vp_nar .boolean 0 = 0 then some (0, S3) else none
def pf_X6_numberFor_2 (G : Nat → ClassId) (N : Nat) : Nat → Nat → Nat → Int32 → mw_M → Option (Int32 × mw_M)
  | 0, _, _, _, _ => none
  | n + 1, y0, y1, y2, S =>
    (mw_gi S y0 6 2).bind fun v1 =>
    if v1 ≤ y2 then
      (mw_gi S y0 6 2).bind fun v2 =>
      some (v2, S)
    else
      mw_b2 (mw_v S y0 6 (pf_X6_isSame G N S y0 y2 y1)) fun v3 S3 =>
      if v3 = 0 then
        pf_X6_numberFor_2 G N n y0 y1 (y2 + 1) S3
      else
        some (y2, S3)
def pf_X6_numberFor (G : Nat → ClassId) (N : Nat) (S : mw_M) (h0 : Nat) (x1 : Nat) : Option (Int32 × mw_M) :=
  pf_X6_numberFor_2 G N N h0 x1 0 S
def pf_X0_variableLength_5 (G : Nat → ClassId) (N : Nat) : Nat → Int32 → Int32 → Int32 → mw_M → Option (Int32 × mw_M)
  | 0, _, _, _, _ => none
  | n + 1, y0, y1, y2, S =>
    if 32 ≤ y2 then
      some (y1, S)
    else
      if (mw_ushr y0 y2) = 0 then
        pf_X0_variableLength_5 G N n y0 y1 (y2 + 7) S
      else
        pf_X0_variableLength_5 G N n y0 (y1 + 1) (y2 + 7) S
def pf_X0_variableLength (G : Nat → ClassId) (N : Nat) (S : mw_M) (x0 : Int32) : Option (Int32 × mw_M) :=
  pf_X0_variableLength_5 G N N x0 1 7 S
def pf_X0_add (G : Nat → ClassId) (N : Nat) (S : mw_M) (h0 : Nat) (x1 : Int32) : Option (mw_M) :=
  (mw_gi S h0 0 1).bind fun v1 =>
  (mw_gr S h0 0 0).bind fun v2 =>
  (mw_al S v2 (G 1)).bind fun v3 =>
  if v3 ≤ v1 then
    some S
  else
    (mw_gr S h0 0 0).bind fun v4 =>
    (mw_gi S h0 0 1).bind fun v5 =>
    (mw_si S v4 (G 1) v5 (vp_nar .byte (mw_i2b x1))).bind fun S6 =>
    (mw_gi S6 h0 0 1).bind fun v7 =>
    (mw_pf S6 h0 0 1 (.int (v7 + 1))).bind fun S8 =>
    some S8
def pf_X0_addVariable_7 (G : Nat → ClassId) (N : Nat) : Nat → Nat → Int32 → Int32 → mw_M → Option (mw_M)
  | 0, _, _, _, _ => none
  | n + 1, y0, y2, y3, S =>
    if y3 ≤ 1 then
      (mw_v S y0 0 (pf_X0_add G N S y0 y2)).bind fun S1 =>
      some S1
    else
      (mw_v S y0 0 (pf_X0_add G N S y0 ((y2 &&& 127) + 128))).bind fun S2 =>
      pf_X0_addVariable_7 G N n y0 (mw_ushr y2 7) (y3 + (-1)) S2
def pf_X0_addVariable (G : Nat → ClassId) (N : Nat) (S : mw_M) (h0 : Nat) (x1 : Int32) : Option (mw_M) :=
  mw_b2 (pf_X0_variableLength G N S x1) fun v1 S1 =>
  pf_X0_addVariable_7 G N N h0 x1 v1 S1
def pf_X8_zigzag (G : Nat → ClassId) (N : Nat) (S : mw_M) (x0 : Int32) : Option (Int32 × mw_M) :=
  if x0 < 0 then
    some ((((-2) * x0) - 1), S)
  else
    some ((2 * x0), S)
def pf_X8_compose_101 (G : Nat → ClassId) (N : Nat) (y0 : Nat) (y3 : Int32) (S : mw_M) : Option (mw_M) :=
  if y3 = (-1) then
    some S
  else
    (mw_gr S y0 8 11).bind fun v1 =>
    (mw_v S v1 0 (pf_X0_addVariable G N S v1 y3)).bind fun S2 =>
    some S2
def pf_X8_compose_79 (G : Nat → ClassId) (N : Nat) (y0 : Nat) (y1 : Int32) (y3 : Int32) (y6 : Int32) (S : mw_M) : Option (mw_M) :=
  (mw_gr S y0 8 4).bind fun v1 =>
  (mw_ai S v1 (G 0) y1).bind fun v2 =>
  if v2 ≤ 2 then
    pf_X8_compose_101 G N y0 y3 S
  else
    (mw_gr S y0 8 11).bind fun v3 =>
    mw_b2 (pf_X8_zigzag G N S y6) fun v4 S4 =>
    (mw_v S4 v3 0 (pf_X0_addVariable G N S4 v3 v4)).bind fun S5 =>
    pf_X8_compose_101 G N y0 y3 S5
def pf_X8_compose_57 (G : Nat → ClassId) (N : Nat) (y0 : Nat) (y1 : Int32) (y3 : Int32) (y5 : Int32) (y6 : Int32) (S : mw_M) : Option (mw_M) :=
  (mw_gr S y0 8 4).bind fun v1 =>
  (mw_ai S v1 (G 0) y1).bind fun v2 =>
  if v2 ≤ 1 then
    pf_X8_compose_79 G N y0 y1 y3 y6 S
  else
    (mw_gr S y0 8 11).bind fun v3 =>
    mw_b2 (pf_X8_zigzag G N S y5) fun v4 S4 =>
    (mw_v S4 v3 0 (pf_X0_addVariable G N S4 v3 v4)).bind fun S5 =>
    pf_X8_compose_79 G N y0 y1 y3 y6 S5
def pf_X8_compose (G : Nat → ClassId) (N : Nat) (S : mw_M) (h0 : Nat) (x1 : Int32) (x2 : Int32) (x3 : Int32) (x4 : Int32) (x5 : Int32) (x6 : Int32) : Option (mw_M) :=
  (mw_gr S h0 8 11).bind fun v1 =>
  (mw_v S v1 0 (pf_X0_clear G N S v1)).bind fun S2 =>
  (mw_gr S2 h0 8 11).bind fun v3 =>
  (mw_v S2 v3 0 (pf_X0_addVariable G N S2 v3 x1)).bind fun S4 =>
  (mw_gr S4 h0 8 11).bind fun v5 =>
  (mw_v S4 v5 0 (pf_X0_addVariable G N S4 v5 x2)).bind fun S6 =>
  (mw_gr S6 h0 8 11).bind fun v7 =>
  (mw_gi S6 h0 8 13).bind fun v8 =>
  (mw_v S6 v7 0 (pf_X0_addVariable G N S6 v7 (v8 - x2))).bind fun S9 =>
  (mw_gr S9 h0 8 4).bind fun v10 =>
  (mw_ai S9 v10 (G 0) x1).bind fun v11 =>
  if v11 ≤ 0 then
    pf_X8_compose_57 G N h0 x1 x3 x5 x6 S9
  else
    (mw_gr S9 h0 8 11).bind fun v12 =>
    mw_b2 (pf_X8_zigzag G N S9 x4) fun v13 S13 =>
    (mw_v S13 v12 0 (pf_X0_addVariable G N S13 v12 v13)).bind fun S14 =>
    pf_X8_compose_57 G N h0 x1 x3 x5 x6 S14
def pf_X3_buffer (G : Nat → ClassId) (N : Nat) (S : mw_M) (h0 : Nat) : Option (Nat × mw_M) :=
  (mw_gr S h0 3 1).bind fun v1 =>
  some (v1, S)
def pf_X0_length (G : Nat → ClassId) (N : Nat) (S : mw_M) (h0 : Nat) : Option (Int32 × mw_M) :=
  (mw_gi S h0 0 1).bind fun v1 =>
  some (v1, S)
def pf_X0_room (G : Nat → ClassId) (N : Nat) (S : mw_M) (h0 : Nat) : Option (Int32 × mw_M) :=
  (mw_gr S h0 0 0).bind fun v1 =>
  (mw_al S v1 (G 1)).bind fun v2 =>
  (mw_gi S h0 0 1).bind fun v3 =>
  some ((v2 - v3), S)
def pf_X0_addRow_2 (G : Nat → ClassId) (N : Nat) : Nat → Nat → Nat → Int32 → mw_M → Option (mw_M)
  | 0, _, _, _, _ => none
  | n + 1, y0, y1, y2, S =>
    (mw_gi S y1 0 1).bind fun v1 =>
    if v1 ≤ y2 then
      some S
    else
      (mw_gr S y1 0 0).bind fun v2 =>
      (mw_ai S v2 (G 1) y2).bind fun v3 =>
      (mw_v S y0 0 (pf_X0_add G N S y0 v3)).bind fun S4 =>
      pf_X0_addRow_2 G N n y0 y1 (y2 + 1) S4
def pf_X0_addRow (G : Nat → ClassId) (N : Nat) (S : mw_M) (h0 : Nat) (x1 : Nat) : Option (mw_M) :=
  pf_X0_addRow_2 G N N h0 x1 0 S
def pf_X0_moveTo (G : Nat → ClassId) (N : Nat) (S : mw_M) (h0 : Nat) (x1 : Nat) : Option (mw_M) :=
  (mw_v S x1 0 (pf_X0_addRow G N S x1 h0)).bind fun S1 =>
  (mw_v S1 h0 0 (pf_X0_clear G N S1 h0)).bind fun S2 =>
  some S2
def pf_X4_takeOver (G : Nat → ClassId) (N : Nat) (S : mw_M) (h0 : Nat) (x1 : Nat) : Option (Int32 × mw_M) :=
  (mw_gi S h0 4 2).bind fun v1 =>
  (mw_gr S h0 4 0).bind fun v2 =>
  (mw_al S v2 (G 6)).bind fun v3 =>
  if v1 < v3 then
    (mw_gr S h0 4 0).bind fun v4 =>
    (mw_gi S h0 4 1).bind fun v5 =>
    (mw_gi S h0 4 2).bind fun v6 =>
    (mw_gr S h0 4 0).bind fun v7 =>
    (mw_al S v7 (G 6)).bind fun v8 =>
    if v8 = 0 then none else
    (mw_aq S v4 (G 6) ((v5 + v6) - (v5 + v6) / v8 * v8)).bind fun v9 =>
    (mw_v S x1 0 (pf_X0_moveTo G N S x1 v9)).bind fun S10 =>
    (mw_gi S10 h0 4 2).bind fun v11 =>
    (mw_pf S10 h0 4 2 (.int (v11 + 1))).bind fun S12 =>
    if vp_nar .boolean 1 = 1 then some (1, S12) else none
  else
    if vp_nar .boolean 0 = 0 then some (0, S) else none
def pf_X8_makeRoom (G : Nat → ClassId) (N : Nat) (S : mw_M) (h0 : Nat) (x1 : Nat) : Option (Int32 × mw_M) :=
  (mw_gr S h0 8 11).bind fun v1 =>
  mw_b2 (mw_v S v1 0 (pf_X0_length G N S v1)) fun v2 S2 =>
  mw_b2 (pf_X0_variableLength G N S2 v2) fun v3 S3 =>
  (mw_gr S3 h0 8 11).bind fun v4 =>
  mw_b2 (mw_v S3 v4 0 (pf_X0_length G N S3 v4)) fun v5 S5 =>
  (mw_gi S5 h0 8 0).bind fun v6 =>
  if (v3 + v5) ≤ v6 then
    mw_b2 (mw_v S5 x1 0 (pf_X0_room G N S5 x1)) fun v7 S7 =>
    if (v3 + v5) ≤ v7 then
      if vp_nar .boolean 1 = 1 then some (1, S7) else none
    else
      (mw_gr S7 h0 8 9).bind fun v8 =>
      mw_b2 (mw_v S7 v8 4 (pf_X4_takeOver G N S7 v8 x1)) fun v9 S9 =>
      if v9 = 0 then
        if vp_nar .boolean 0 = 0 then some (0, S9) else none
      else
        if vp_nar .boolean 1 = 1 then some (1, S9) else none
  else
    if vp_nar .boolean 0 = 0 then some (0, S5) else none
def pf_X3_lose (G : Nat → ClassId) (N : Nat) (S : mw_M) (h0 : Nat) : Option (mw_M) :=
  (mw_gi S h0 3 3).bind fun v1 =>
  (mw_pf S h0 3 3 (.int (v1 + 1))).bind fun S2 =>
  (mw_gi S2 h0 3 4).bind fun v3 =>
  (mw_pf S2 h0 3 4 (.int (v3 + 1))).bind fun S4 =>
  some S4
def pf_X2_open (G : Nat → ClassId) (N : Nat) (S : mw_M) (h0 : Nat) : Option (Nat × mw_M) :=
  (mw_gr S h0 2 0).bind fun v1 =>
  (mw_gi S h0 2 1).bind fun v2 =>
  (mw_aq S v1 (G 7) v2).bind fun v3 =>
  some (v3, S)
def pf_X1_countEvent (G : Nat → ClassId) (N : Nat) (S : mw_M) (h0 : Nat) : Option (mw_M) :=
  (mw_gi S h0 1 4).bind fun v1 =>
  (mw_pf S h0 1 4 (.int (v1 + 1))).bind fun S2 =>
  some S2
def pf_X6_keep_33 (G : Nat → ClassId) (N : Nat) : Nat → Nat → Nat → Int32 → mw_M → Option (mw_M)
  | 0, _, _, _, _ => none
  | n + 1, y0, y2, y3, S =>
    (mw_gr S y0 6 1).bind fun v1 =>
    (mw_gi S y0 6 2).bind fun v2 =>
    (mw_ai S v1 (G 0) v2).bind fun v3 =>
    if v3 ≤ y3 then
      (mw_gi S y0 6 2).bind fun v4 =>
      (mw_pf S y0 6 2 (.int (v4 + 1))).bind fun S5 =>
      some S5
    else
      (mw_gr S y0 6 0).bind fun v6 =>
      (mw_gi S y0 6 2).bind fun v7 =>
      mw_b2 (mw_v S y2 7 (pf_X7_at G N S y2 y3)) fun v8 S8 =>
      (mw_si S8 v6 (G 2) ((v7 * 8) + y3) (vp_nar .char v8)).bind fun S9 =>
      pf_X6_keep_33 G N n y0 y2 (y3 + 1) S9
def pf_X6_keep (G : Nat → ClassId) (N : Nat) (S : mw_M) (h0 : Nat) (x1 : Int32) (x2 : Nat) : Option (mw_M) :=
  (mw_gi S h0 6 2).bind fun v1 =>
  if ¬ x1 = v1 then
    some S
  else
    (mw_gi S h0 6 2).bind fun v2 =>
    if v2 < 24 then
      (mw_gr S h0 6 1).bind fun v3 =>
      (mw_gi S h0 6 2).bind fun v4 =>
      mw_b2 (pf_X6_usedLength G N S x2) fun v5 S5 =>
      (mw_si S5 v3 (G 0) v4 v5).bind fun S6 =>
      pf_X6_keep_33 G N N h0 x2 0 S6
    else
      some S
def pf_X1_use (G : Nat → ClassId) (N : Nat) (S : mw_M) (h0 : Nat) (x1 : Int32) : Option (mw_M) :=
  if x1 < 0 then
    some S
  else
    if 24 ≤ x1 then
      some S
    else
      (mw_gr S h0 1 1).bind fun v1 =>
      (mw_si S v1 (G 3) x1 (vp_nar .boolean 1)).bind fun S2 =>
      some S2
def pf_X8_endEvent_95 (G : Nat → ClassId) (N : Nat) (y1 : Nat) (S : mw_M) : Option (Int32 × mw_M) :=
  (mw_v S y1 3 (pf_X3_lose G N S y1)).bind fun S1 =>
  some (4, S1)
def pf_X8_endEvent_61 (G : Nat → ClassId) (N : Nat) (y0 : Nat) (y1 : Nat) (y2 : Int32) (y3 : Int32) (y4 : Int32) (y5 : Int32) (y6 : Int32) (w0 : Int32) (S : mw_M) : Option (Int32 × mw_M) :=
  (mw_v S y0 8 (pf_X8_compose G N S y0 y2 y6 w0 y3 y4 y5)).bind fun S1 =>
  if 24 ≤ w0 then
    pf_X8_endEvent_95 G N y1 S1
  else
    mw_b2 (mw_v S1 y1 3 (pf_X3_buffer G N S1 y1)) fun v2 S2 =>
    mw_b2 (mw_v S2 y0 8 (pf_X8_makeRoom G N S2 y0 v2)) fun v3 S3 =>
    if ¬ v3 = 0 then
      mw_b2 (mw_v S3 y1 3 (pf_X3_buffer G N S3 y1)) fun v4 S4 =>
      (mw_gr S4 y0 8 11).bind fun v5 =>
      mw_b2 (mw_v S4 v5 0 (pf_X0_length G N S4 v5)) fun v6 S6 =>
      (mw_v S6 v4 0 (pf_X0_addVariable G N S6 v4 v6)).bind fun S7 =>
      mw_b2 (mw_v S7 y1 3 (pf_X3_buffer G N S7 y1)) fun v8 S8 =>
      (mw_gr S8 y0 8 11).bind fun v9 =>
      (mw_v S8 v8 0 (pf_X0_addRow G N S8 v8 v9)).bind fun S10 =>
      (mw_gr S10 y0 8 10).bind fun v11 =>
      mw_b2 (mw_v S10 v11 2 (pf_X2_open G N S10 v11)) fun v12 S12 =>
      (mw_v S12 v12 1 (pf_X1_countEvent G N S12 v12)).bind fun S13 =>
      if w0 = (-1) then
        some (0, S13)
      else
        (mw_gr S13 y0 8 2).bind fun v14 =>
        (mw_gr S13 y0 8 1).bind fun v15 =>
        (mw_v S13 v14 6 (pf_X6_keep G N S13 v14 w0 v15)).bind fun S16 =>
        (mw_gr S16 y0 8 10).bind fun v17 =>
        mw_b2 (mw_v S16 v17 2 (pf_X2_open G N S16 v17)) fun v18 S18 =>
        (mw_v S18 v18 1 (pf_X1_use G N S18 v18 w0)).bind fun S19 =>
        some (0, S19)
    else
      pf_X8_endEvent_95 G N y1 S3
def pf_X8_endEvent (G : Nat → ClassId) (N : Nat) (S : mw_M) (h0 : Nat) (x1 : Nat) (x2 : Int32) (x3 : Int32) (x4 : Int32) (x5 : Int32) : Option (Int32 × mw_M) :=
  mw_b2 (mw_v S x1 3 (pf_X3_hasBegun G N S x1)) fun v1 S1 =>
  if ¬ v1 = 0 then
    mw_b2 (mw_v S1 x1 3 (pf_X3_endLatest G N S1 x1)) fun v2 S2 =>
    (mw_gi S2 h0 8 13).bind fun v3 =>
    mw_b2 (mw_v S2 h0 8 (pf_X8_interestIn G N S2 h0 x2 (v3 - v2))) fun v4 S4 =>
    if v4 = 0 then
      (mw_gr S4 h0 8 5).bind fun v5 =>
      (mw_ai S4 v5 (G 3) x2).bind fun v6 =>
      if v6 = 0 then
        pf_X8_endEvent_61 G N h0 x1 x2 x3 x4 x5 v2 (-1) S4
      else
        (mw_gr S4 h0 8 2).bind fun v7 =>
        (mw_gr S4 h0 8 1).bind fun v8 =>
        mw_b2 (mw_v S4 v7 6 (pf_X6_numberFor G N S4 v7 v8)) fun v9 S9 =>
        pf_X8_endEvent_61 G N h0 x1 x2 x3 x4 x5 v2 v9 S9
    else
      some (v4, S4)
  else
    some (1, S1)
def pf_X7_clear (G : Nat → ClassId) (N : Nat) (S : mw_M) (h0 : Nat) : Option (mw_M) :=
  (mw_pf S h0 7 1 (.int 0)).bind fun S1 =>
  some S1
def pf_X8_commit (G : Nat → ClassId) (N : Nat) (S : mw_M) (h0 : Nat) (x1 : Int32) (x2 : Int32) (x3 : Int32) (x4 : Int32) (x5 : Int32) : Option (Int32 × mw_M) :=
  mw_b2 (pf_X8_isThread G N S x1) fun v1 S1 =>
  if v1 = 0 then
    some ((-1), S1)
  else
    mw_b2 (mw_v S1 h0 8 (pf_X8_isType G N S1 h0 x2)) fun v2 S2 =>
    if ¬ v2 = 0 then
      (mw_gr S2 h0 8 3).bind fun v3 =>
      (mw_aq S2 v3 (G 4) x1).bind fun v4 =>
      mw_b2 (mw_v S2 h0 8 (pf_X8_endEvent G N S2 h0 v4 x2 x3 x4 x5)) fun v5 S5 =>
      (mw_gr S5 h0 8 5).bind fun v6 =>
      (mw_ai S5 v6 (G 3) x2).bind fun v7 =>
      if v7 = 0 then
        some (v5, S5)
      else
        (mw_gr S5 h0 8 1).bind fun v8 =>
        (mw_v S5 v8 7 (pf_X7_clear G N S5 v8)).bind fun S9 =>
        some (v5, S9)
    else
      some ((-1), S2)
def pf_X1_body (G : Nat → ClassId) (N : Nat) (S : mw_M) (h0 : Nat) : Option (Nat × mw_M) :=
  (mw_gr S h0 1 0).bind fun v1 =>
  some (v1, S)
def pf_X4_moveFirstTo (G : Nat → ClassId) (N : Nat) (S : mw_M) (h0 : Nat) (x1 : Nat) : Option (Int32 × mw_M) :=
  (mw_gi S h0 4 2).bind fun v1 =>
  if 0 < v1 then
    (mw_gr S h0 4 0).bind fun v2 =>
    (mw_gi S h0 4 1).bind fun v3 =>
    (mw_aq S v2 (G 6) v3).bind fun v4 =>
    mw_b2 (mw_v S v4 0 (pf_X0_length G N S v4)) fun v5 S5 =>
    (mw_gr S5 h0 4 0).bind fun v6 =>
    (mw_gi S5 h0 4 1).bind fun v7 =>
    (mw_aq S5 v6 (G 6) v7).bind fun v8 =>
    (mw_v S5 v8 0 (pf_X0_moveTo G N S5 v8 x1)).bind fun S9 =>
    (mw_gi S9 h0 4 1).bind fun v10 =>
    (mw_gr S9 h0 4 0).bind fun v11 =>
    (mw_al S9 v11 (G 6)).bind fun v12 =>
    if v12 = 0 then none else
    (mw_pf S9 h0 4 1 (.int ((v10 + 1) - (v10 + 1) / v12 * v12))).bind fun S13 =>
    (mw_gi S13 h0 4 2).bind fun v14 =>
    (mw_pf S13 h0 4 2 (.int (v14 - 1))).bind fun S15 =>
    some (v5, S15)
  else
    some (0, S)
def pf_X3_takeLostInChunk (G : Nat → ClassId) (N : Nat) (S : mw_M) (h0 : Nat) : Option (Int32 × mw_M) :=
  (mw_gi S h0 3 3).bind fun v1 =>
  (mw_pf S h0 3 3 (.int 0)).bind fun S2 =>
  some (v1, S2)
def pf_X1_addLoss (G : Nat → ClassId) (N : Nat) (S : mw_M) (h0 : Nat) (x1 : Int32) (x2 : Int32) : Option (mw_M) :=
  (mw_gr S h0 1 0).bind fun v1 =>
  mw_b2 (pf_X0_variableLength G N S x2) fun v2 S2 =>
  (mw_v S2 v1 0 (pf_X0_addVariable G N S2 v1 (2 + v2))).bind fun S3 =>
  (mw_gr S3 h0 1 0).bind fun v4 =>
  (mw_v S3 v4 0 (pf_X0_add G N S3 v4 63)).bind fun S5 =>
  (mw_gr S5 h0 1 0).bind fun v6 =>
  (mw_v S5 v6 0 (pf_X0_addVariable G N S5 v6 x1)).bind fun S7 =>
  (mw_gr S7 h0 1 0).bind fun v8 =>
  (mw_v S7 v8 0 (pf_X0_addVariable G N S7 v8 x2)).bind fun S9 =>
  some S9
def pf_X1_number (G : Nat → ClassId) (N : Nat) (S : mw_M) (h0 : Nat) : Option (Int32 × mw_M) :=
  (mw_gi S h0 1 2).bind fun v1 =>
  some (v1, S)
def pf_X2_evictOldest_9 (G : Nat → ClassId) (N : Nat) : Nat → Nat → Nat → Int32 → mw_M → Option (mw_M)
  | 0, _, _, _, _ => none
  | n + 1, y0, y1, y2, S =>
    (mw_gr S y0 2 0).bind fun v1 =>
    (mw_al S v1 (G 7)).bind fun v2 =>
    if v2 ≤ y2 then
      (mw_gr S y0 2 0).bind fun v3 =>
      (mw_gr S y0 2 0).bind fun v4 =>
      (mw_al S v4 (G 7)).bind fun v5 =>
      (mw_sq S v3 (G 7) 1 (v5 - 1) y1).bind fun S6 =>
      (mw_gi S6 y0 2 1).bind fun v7 =>
      (mw_pf S6 y0 2 1 (.int (v7 - 1))).bind fun S8 =>
      (mw_gi S8 y0 2 2).bind fun v9 =>
      (mw_pf S8 y0 2 2 (.int (v9 + 1))).bind fun S10 =>
      some S10
    else
      (mw_gr S y0 2 0).bind fun v11 =>
      (mw_gr S y0 2 0).bind fun v12 =>
      (mw_aq S v12 (G 7) y2).bind fun v13 =>
      (mw_sq S v11 (G 7) 1 (y2 - 1) v13).bind fun S14 =>
      pf_X2_evictOldest_9 G N n y0 y1 (y2 + 1) S14
def pf_X2_evictOldest (G : Nat → ClassId) (N : Nat) (S : mw_M) (h0 : Nat) : Option (mw_M) :=
  (mw_gr S h0 2 0).bind fun v1 =>
  (mw_aq S v1 (G 7) 0).bind fun v2 =>
  pf_X2_evictOldest_9 G N N h0 v2 1 S
def pf_X2_finishOpen_49 (G : Nat → ClassId) (N : Nat) (y0 : Nat) (y1 : Int32) (y2 : Int32) (S : mw_M) : Option (mw_M) :=
  mw_b2 (mw_v S y0 2 (pf_X2_open G N S y0)) fun v1 S1 =>
  (mw_v S1 v1 1 (pf_X1_openAs G N S1 v1 y2 y1)).bind fun S2 =>
  some S2
def pf_X2_finishOpen_33 (G : Nat → ClassId) (N : Nat) (y0 : Nat) (y1 : Int32) (y2 : Int32) (S : mw_M) : Option (mw_M) :=
  (mw_gi S y0 2 1).bind fun v1 =>
  (mw_gr S y0 2 0).bind fun v2 =>
  (mw_al S v2 (G 7)).bind fun v3 =>
  if v1 < v3 then
    pf_X2_finishOpen_49 G N y0 y1 y2 S
  else
    (mw_v S y0 2 (pf_X2_evictOldest G N S y0)).bind fun S4 =>
    pf_X2_finishOpen_49 G N y0 y1 y2 S4
def pf_X2_finishOpen (G : Nat → ClassId) (N : Nat) (S : mw_M) (h0 : Nat) (x1 : Int32) : Option (mw_M) :=
  mw_b2 (mw_v S h0 2 (pf_X2_open G N S h0)) fun v1 S1 =>
  mw_b2 (mw_v S1 v1 1 (pf_X1_number G N S1 v1)) fun v2 S2 =>
  mw_b2 (mw_v S2 h0 2 (pf_X2_open G N S2 h0)) fun v3 S3 =>
  mw_b2 (mw_v S3 v3 1 (pf_X1_body G N S3 v3)) fun v4 S4 =>
  mw_b2 (mw_v S4 v4 0 (pf_X0_length G N S4 v4)) fun v5 S5 =>
  if v5 ≤ 0 then
    pf_X2_finishOpen_33 G N h0 x1 (v2 + 1) S5
  else
    (mw_gi S5 h0 2 1).bind fun v6 =>
    (mw_pf S5 h0 2 1 (.int (v6 + 1))).bind fun S7 =>
    pf_X2_finishOpen_33 G N h0 x1 (v2 + 1) S7
def pf_X8_rotate_64 (G : Nat → ClassId) (N : Nat) : Nat → Nat → Nat → Int32 → mw_M → Option (mw_M)
  | 0, _, _, _, _ => none
  | n + 1, y0, y1, y2, S =>
    if 3 ≤ y2 then
      (mw_gr S y0 8 10).bind fun v1 =>
      (mw_gi S y0 8 13).bind fun v2 =>
      (mw_v S v1 2 (pf_X2_finishOpen G N S v1 v2)).bind fun S3 =>
      some S3
    else
      (mw_gr S y0 8 3).bind fun v4 =>
      (mw_aq S v4 (G 4) y2).bind fun v5 =>
      mw_b2 (mw_v S v5 3 (pf_X3_takeLostInChunk G N S v5)) fun v6 S6 =>
      if v6 ≤ 0 then
        pf_X8_rotate_64 G N n y0 y1 (y2 + 1) S6
      else
        (mw_v S6 y1 1 (pf_X1_addLoss G N S6 y1 y2 v6)).bind fun S7 =>
        pf_X8_rotate_64 G N n y0 y1 (y2 + 1) S7
def pf_X8_rotate_35 (G : Nat → ClassId) (N : Nat) : Nat → Nat → Nat → Int32 → mw_M → Option (mw_M)
  | 0, _, _, _, _ => none
  | n + 1, y0, y1, y2, S =>
    if 3 ≤ y2 then
      pf_X8_rotate_64 G N N y0 y1 0 S
    else
      (mw_gr S y0 8 3).bind fun v1 =>
      (mw_aq S v1 (G 4) y2).bind fun v2 =>
      mw_b2 (mw_v S v2 3 (pf_X3_buffer G N S v2)) fun v3 S3 =>
      mw_b2 (mw_v S3 y1 1 (pf_X1_body G N S3 y1)) fun v4 S4 =>
      (mw_v S4 v3 0 (pf_X0_moveTo G N S4 v3 v4)).bind fun S5 =>
      pf_X8_rotate_35 G N n y0 y1 (y2 + 1) S5
def pf_X8_rotate_10 (G : Nat → ClassId) (N : Nat) : Nat → Nat → Nat → Int32 → mw_M → Option (mw_M)
  | 0, _, _, _, _ => none
  | n + 1, y0, y1, y2, S =>
    if 4 ≤ y2 then
      pf_X8_rotate_35 G N N y0 y1 0 S
    else
      (mw_gr S y0 8 9).bind fun v1 =>
      mw_b2 (mw_v S y1 1 (pf_X1_body G N S y1)) fun v2 S2 =>
      mw_b2 (mw_v S2 v1 4 (pf_X4_moveFirstTo G N S2 v1 v2)) fun v3 S3 =>
      pf_X8_rotate_10 G N n y0 y1 (y2 + 1) S3
def pf_X8_rotate (G : Nat → ClassId) (N : Nat) (S : mw_M) (h0 : Nat) : Option (mw_M) :=
  (mw_gr S h0 8 10).bind fun v1 =>
  mw_b2 (mw_v S v1 2 (pf_X2_open G N S v1)) fun v2 S2 =>
  pf_X8_rotate_10 G N N h0 v2 0 S2
def pf_X8_flush (G : Nat → ClassId) (N : Nat) (S : mw_M) (h0 : Nat) : Option (Int32 × mw_M) :=
  (mw_gr S h0 8 10).bind fun v1 =>
  mw_b2 (mw_v S v1 2 (pf_X2_open G N S v1)) fun v2 S2 =>
  (mw_gr S2 h0 8 9).bind fun v3 =>
  mw_b2 (mw_v S2 v2 1 (pf_X1_body G N S2 v2)) fun v4 S4 =>
  mw_b2 (mw_v S4 v3 4 (pf_X4_moveFirstTo G N S4 v3 v4)) fun v5 S5 =>
  mw_b2 (mw_v S5 v2 1 (pf_X1_body G N S5 v2)) fun v6 S6 =>
  mw_b2 (mw_v S6 v6 0 (pf_X0_length G N S6 v6)) fun v7 S7 =>
  if v7 ≤ 150 then
    some (v5, S7)
  else
    (mw_v S7 h0 8 (pf_X8_rotate G N S7 h0)).bind fun S8 =>
    some (v5, S8)
def pf_X8_record (G : Nat → ClassId) (N : Nat) (S : mw_M) (h0 : Nat) : Option (Nat × Int32 × mw_M) :=
  (mw_gi S h0 8 8).bind fun v1 =>
  if v1 < 4 then
    (mw_gi S h0 8 8).bind fun v2 =>
    (mw_pf S h0 8 8 (.int (v2 + 1))).bind fun S3 =>
    (mw_gi S3 h0 8 8).bind fun v4 =>
    some (0, (v4 - 1), S3)
  else
    some (2, 0, S)
def pf_X7_digitAt (G : Nat → ClassId) (N : Nat) (S : mw_M) (h0 : Nat) (x1 : Int32) : Option (Int32 × mw_M) :=
  mw_b2 (mw_v S h0 7 (pf_X7_at G N S h0 x1)) fun v1 S1 =>
  if v1 < 48 then
    some ((-1), S1)
  else
    if 57 < v1 then
      some ((-1), S1)
    else
      some ((v1 - 48), S1)
def pf_X8_itemEnd_78 (G : Nat → ClassId) (N : Nat) (y1 : Int32) (y2 : Int32) (S : mw_M) : Option (Int32 × mw_M) :=
  some (((y1 + 2) + y2), S)
def pf_X8_itemEnd_51 (G : Nat → ClassId) (N : Nat) : Nat → Nat → Int32 → Int32 → mw_M → Option (Int32 × mw_M)
  | 0, _, _, _, _ => none
  | n + 1, y0, y1, y2, S =>
    if 3 ≤ y2 then
      pf_X8_itemEnd_78 G N y1 y2 S
    else
      (mw_gr S y0 8 1).bind fun v1 =>
      mw_b2 (mw_v S v1 7 (pf_X7_digitAt G N S v1 ((y1 + 2) + y2))) fun v2 S2 =>
      if v2 = (-1) then
        pf_X8_itemEnd_78 G N y1 y2 S2
      else
        pf_X8_itemEnd_51 G N n y0 y1 (y2 + 1) S2
def pf_X8_itemEnd (G : Nat → ClassId) (N : Nat) (S : mw_M) (h0 : Nat) (x1 : Int32) : Option (Int32 × mw_M) :=
  (mw_gr S h0 8 1).bind fun v1 =>
  mw_b2 (mw_v S v1 7 (pf_X7_digitAt G N S v1 x1)) fun v2 S2 =>
  mw_b2 (mw_v S2 h0 8 (pf_X8_isType G N S2 h0 v2)) fun v3 S3 =>
  if ¬ v3 = 0 then
    (mw_gr S3 h0 8 1).bind fun v4 =>
    mw_b2 (mw_v S3 v4 7 (pf_X7_at G N S3 v4 (x1 + 1))) fun v5 S5 =>
    if v5 = 43 then
      pf_X8_itemEnd_51 G N N h0 x1 0 S5
    else
      (mw_gr S5 h0 8 1).bind fun v6 =>
      mw_b2 (mw_v S5 v6 7 (pf_X7_at G N S5 v6 (x1 + 1))) fun v7 S7 =>
      if v7 = 45 then
        pf_X8_itemEnd_51 G N N h0 x1 0 S7
      else
        some ((-1), S7)
  else
    some ((-1), S3)
def pf_X8_countItems_34 (G : Nat → ClassId) (N : Nat) (k5 : Nat → Int32 → Int32 → Int32 → mw_M → Option (Int32 × mw_M)) (y0 : Nat) (y2 : Int32) (y4 : Int32) (y5 : Int32) (S : mw_M) : Option (Int32 × mw_M) :=
  if y5 = (-1) then
    some ((-1), S)
  else
    (mw_gr S y0 8 1).bind fun v1 =>
    mw_b2 (mw_v S v1 7 (pf_X7_at G N S v1 y5)) fun v2 S2 =>
    if v2 = 44 then
      k5 y0 y2 (y5 + 1) (y4 + 1) S2
    else
      some ((-1), S2)
def pf_X8_countItems_5 (G : Nat → ClassId) (N : Nat) : Nat → Nat → Int32 → Int32 → Int32 → mw_M → Option (Int32 × mw_M)
  | 0, _, _, _, _, _ => none
  | n + 1, y0, y2, y3, y4, S =>
    if 40 < y4 then
      some ((-1), S)
    else
      mw_b2 (mw_v S y0 8 (pf_X8_itemEnd G N S y0 y3)) fun v1 S1 =>
      if v1 = (-1) then
        pf_X8_countItems_34 G N (pf_X8_countItems_5 G N n) y0 y2 y4 v1 S1
      else
        if ¬ v1 = y2 then
          pf_X8_countItems_34 G N (pf_X8_countItems_5 G N n) y0 y2 y4 v1 S1
        else
          some (y4, S1)
def pf_X8_countItems (G : Nat → ClassId) (N : Nat) (S : mw_M) (h0 : Nat) (x1 : Int32) (x2 : Int32) : Option (Int32 × mw_M) :=
  pf_X8_countItems_5 G N N h0 x2 x1 1 S
def pf_X8_isRecording (G : Nat → ClassId) (N : Nat) (S : mw_M) (h0 : Nat) (x1 : Int32) : Option (Int32 × mw_M) :=
  if x1 < 0 then
    if vp_nar .boolean 0 = 0 then some (0, S) else none
  else
    (mw_gi S h0 8 8).bind fun v1 =>
    if v1 ≤ x1 then
      if vp_nar .boolean 0 = 0 then some (0, S) else none
    else
      if vp_nar .boolean 1 = 1 then some (1, S) else none
def pf_X5_turn (G : Nat → ClassId) (N : Nat) (S : mw_M) (h0 : Nat) (x1 : Int32) (x2 : Int32) : Option (mw_M) :=
  if x1 < 0 then
    some S
  else
    if 6 ≤ x1 then
      some S
    else
      (mw_gr S h0 5 0).bind fun v1 =>
      if ¬ x2 = 0 then
        (mw_si S v1 (G 3) x1 (vp_nar .boolean 0)).bind fun S2 =>
        some S2
      else
        (mw_si S v1 (G 3) x1 (vp_nar .boolean 1)).bind fun S3 =>
        some S3
def pf_X5_limit (G : Nat → ClassId) (N : Nat) (S : mw_M) (h0 : Nat) (x1 : Int32) (x2 : Int32) : Option (mw_M) :=
  if x1 < 0 then
    some S
  else
    if 6 ≤ x1 then
      some S
    else
      (mw_gr S h0 5 1).bind fun v1 =>
      (mw_si S v1 (G 0) x1 x2).bind fun S2 =>
      some S2
def pf_X8_applyItem_44 (G : Nat → ClassId) (N : Nat) : Nat → Nat → Nat → Int32 → Int32 → Int32 → Int32 → Int32 → mw_M → Option (mw_M)
  | 0, _, _, _, _, _, _, _, _ => none
  | n + 1, y0, y1, y2, y3, y4, y5, y6, S =>
    if y3 ≤ y6 then
      if y3 ≤ (y2 + 2) then
        some S
      else
        (mw_v S y1 5 (pf_X5_limit G N S y1 y4 y5)).bind fun S1 =>
        some S1
    else
      (mw_gr S y0 8 1).bind fun v2 =>
      mw_b2 (mw_v S v2 7 (pf_X7_digitAt G N S v2 y6)) fun v3 S3 =>
      pf_X8_applyItem_44 G N n y0 y1 y2 y3 y4 ((10 * y5) + v3) (y6 + 1) S3
def pf_X8_applyItem_33 (G : Nat → ClassId) (N : Nat) (y0 : Nat) (y1 : Nat) (y2 : Int32) (y3 : Int32) (y4 : Int32) (w0 : Nat) (w1 : Int32) (w2 : Int32) (S : mw_M) : Option (mw_M) :=
  (mw_v S w0 5 (pf_X5_turn G N S w0 w1 w2)).bind fun S1 =>
  pf_X8_applyItem_44 G N N y0 y1 y2 y3 y4 0 (y2 + 2) S1
def pf_X8_applyItem (G : Nat → ClassId) (N : Nat) (S : mw_M) (h0 : Nat) (x1 : Nat) (x2 : Int32) (x3 : Int32) : Option (mw_M) :=
  (mw_gr S h0 8 1).bind fun v1 =>
  mw_b2 (mw_v S v1 7 (pf_X7_digitAt G N S v1 x2)) fun v2 S2 =>
  (mw_gr S2 h0 8 1).bind fun v3 =>
  mw_b2 (mw_v S2 v3 7 (pf_X7_at G N S2 v3 (x2 + 1))) fun v4 S4 =>
  if ¬ v4 = 43 then
    pf_X8_applyItem_33 G N h0 x1 x2 x3 v2 x1 v2 0 S4
  else
    pf_X8_applyItem_33 G N h0 x1 x2 x3 v2 x1 v2 1 S4
def pf_X8_applyItems_6 (G : Nat → ClassId) (N : Nat) : Nat → Nat → Nat → Int32 → Int32 → Int32 → mw_M → Option (mw_M)
  | 0, _, _, _, _, _, _ => none
  | n + 1, y0, y1, y3, y4, y5, S =>
    if y3 ≤ y5 then
      some S
    else
      mw_b2 (mw_v S y0 8 (pf_X8_itemEnd G N S y0 y4)) fun v1 S1 =>
      (mw_v S1 y0 8 (pf_X8_applyItem G N S1 y0 y1 y4 v1)).bind fun S2 =>
      pf_X8_applyItems_6 G N n y0 y1 y3 (v1 + 1) (y5 + 1) S2
def pf_X8_applyItems (G : Nat → ClassId) (N : Nat) (S : mw_M) (h0 : Nat) (x1 : Nat) (x2 : Int32) (x3 : Int32) : Option (mw_M) :=
  pf_X8_applyItems_6 G N N h0 x1 x3 x2 0 S
def pf_X8_settings_77 (G : Nat → ClassId) (N : Nat) (y0 : Nat) (y2 : Int32) (y3 : Int32) (y4 : Int32) (S : mw_M) : Option (Nat × Int32 × mw_M) :=
  (mw_gr S y0 8 1).bind fun v1 =>
  (mw_v S v1 7 (pf_X7_clear G N S v1)).bind fun S2 =>
  if ¬ y3 = 0 then
    if y4 = 0 then
      some (0, y2, S2)
    else
      some (2, 0, S2)
  else
    some (1, 0, S2)
def pf_X8_settings_54 (G : Nat → ClassId) (N : Nat) (y0 : Nat) (y1 : Int32) (y2 : Int32) (y3 : Int32) (w0 : Int32) (S : mw_M) : Option (Nat × Int32 × mw_M) :=
  if y3 = 0 then
    pf_X8_settings_77 G N y0 y2 y3 w0 S
  else
    if ¬ w0 = 0 then
      pf_X8_settings_77 G N y0 y2 y3 w0 S
    else
      (mw_gr S y0 8 7).bind fun v1 =>
      (mw_aq S v1 (G 5) y1).bind fun v2 =>
      (mw_v S y0 8 (pf_X8_applyItems G N S y0 v2 0 y2)).bind fun S3 =>
      pf_X8_settings_77 G N y0 y2 y3 w0 S3
def pf_X8_settings_53 (G : Nat → ClassId) (N : Nat) (y0 : Nat) (y1 : Int32) (y2 : Int32) (y3 : Int32) (S : mw_M) : Option (Nat × Int32 × mw_M) :=
  pf_X8_settings_54 G N y0 y1 y2 y3 0 S
def pf_X8_settings_31 (G : Nat → ClassId) (N : Nat) (y0 : Nat) (y1 : Int32) (y2 : Int32) (w0 : Int32) (S : mw_M) : Option (Nat × Int32 × mw_M) :=
  if w0 = 0 then
    pf_X8_settings_53 G N y0 y1 y2 w0 S
  else
    (mw_gr S y0 8 7).bind fun v1 =>
    (mw_aq S v1 (G 5) y1).bind fun v2 =>
    mw_b2 (mw_v S v2 5 (pf_X5_is G N S v2 3)) fun v3 S3 =>
    if v3 = 0 then
      pf_X8_settings_53 G N y0 y1 y2 w0 S3
    else
      pf_X8_settings_54 G N y0 y1 y2 w0 1 S3
def pf_X8_settings_30 (G : Nat → ClassId) (N : Nat) (y0 : Nat) (y1 : Int32) (y2 : Int32) (S : mw_M) : Option (Nat × Int32 × mw_M) :=
  pf_X8_settings_31 G N y0 y1 y2 0 S
def pf_X8_settings (G : Nat → ClassId) (N : Nat) (S : mw_M) (h0 : Nat) (x1 : Int32) : Option (Nat × Int32 × mw_M) :=
  (mw_gr S h0 8 1).bind fun v1 =>
  mw_b2 (mw_v S v1 7 (pf_X7_length G N S v1)) fun v2 S2 =>
  mw_b2 (mw_v S2 h0 8 (pf_X8_countItems G N S2 h0 0 v2)) fun v3 S3 =>
  mw_b2 (mw_v S3 h0 8 (pf_X8_isRecording G N S3 h0 x1)) fun v4 S4 =>
  if v4 = 0 then
    pf_X8_settings_30 G N h0 x1 v3 S4
  else
    if v3 = (-1) then
      pf_X8_settings_30 G N h0 x1 v3 S4
    else
      pf_X8_settings_31 G N h0 x1 v3 1 S4
def pf_X8_carryOutPart (G : Nat → ClassId) (N : Nat) (S : mw_M) (h0 : Nat) (x1 : Int32) (x2 : Int32) : Option (Int32 × mw_M) :=
  (mw_gr S h0 8 1).bind fun v1 =>
  mw_b2 (mw_v S v1 7 (pf_X7_digitAt G N S v1 x1)) fun v2 S2 =>
  mw_b2 (mw_v S2 h0 8 (pf_X8_isRecording G N S2 h0 v2)) fun v3 S3 =>
  if v3 = 0 then
    if vp_nar .boolean 0 = 0 then some (0, S3) else none
  else
    (mw_gr S3 h0 8 7).bind fun v4 =>
    (mw_aq S3 v4 (G 5) v2).bind fun v5 =>
    mw_b2 (mw_v S3 v5 5 (pf_X5_is G N S3 v5 3)) fun v6 S6 =>
    if ¬ v6 = 0 then
      if vp_nar .boolean 0 = 0 then some (0, S6) else none
    else
      (mw_gr S6 h0 8 1).bind fun v7 =>
      mw_b2 (mw_v S6 v7 7 (pf_X7_at G N S6 v7 (x1 + 1))) fun v8 S8 =>
      if v8 = 58 then
        mw_b2 (mw_v S8 h0 8 (pf_X8_countItems G N S8 h0 (x1 + 2) x2)) fun v9 S9 =>
        if ¬ v9 = (-1) then
          (mw_gr S9 h0 8 7).bind fun v10 =>
          (mw_aq S9 v10 (G 5) v2).bind fun v11 =>
          (mw_v S9 h0 8 (pf_X8_applyItems G N S9 h0 v11 (x1 + 2) v9)).bind fun S12 =>
          if vp_nar .boolean 1 = 1 then some (1, S12) else none
        else
          if vp_nar .boolean 0 = 0 then some (0, S9) else none
      else
        if vp_nar .boolean 0 = 0 then some (0, S8) else none
def pf_X8_profile_66 (G : Nat → ClassId) (N : Nat) (k9 : Nat → Int32 → Int32 → Int32 → Int32 → mw_M → Option (Int32 × mw_M)) (y0 : Nat) (y1 : Int32) (y2 : Int32) (y4 : Int32) (S : mw_M) : Option (Int32 × mw_M) :=
  k9 y0 y1 y2 (y4 + 1) (y4 + 1) S
def pf_X8_profile_47 (G : Nat → ClassId) (N : Nat) (k9 : Nat → Int32 → Int32 → Int32 → Int32 → mw_M → Option (Int32 × mw_M)) (y0 : Nat) (y1 : Int32) (y2 : Int32) (y3 : Int32) (y4 : Int32) (S : mw_M) : Option (Int32 × mw_M) :=
  mw_b2 (mw_v S y0 8 (pf_X8_carryOutPart G N S y0 y3 y4)) fun v1 S1 =>
  if v1 = 0 then
    pf_X8_profile_66 G N k9 y0 y1 (y2 + 1) y4 S1
  else
    pf_X8_profile_66 G N k9 y0 (y1 + 1) y2 y4 S1
def pf_X8_profile_9 (G : Nat → ClassId) (N : Nat) : Nat → Nat → Int32 → Int32 → Int32 → Int32 → mw_M → Option (Int32 × mw_M)
  | 0, _, _, _, _, _, _ => none
  | n + 1, y0, y1, y2, y3, y4, S =>
    (mw_gr S y0 8 1).bind fun v1 =>
    mw_b2 (mw_v S v1 7 (pf_X7_length G N S v1)) fun v2 S2 =>
    if v2 < y4 then
      (mw_gr S2 y0 8 1).bind fun v3 =>
      (mw_v S2 v3 7 (pf_X7_clear G N S2 v3)).bind fun S4 =>
      some (((10 * y1) + y2), S4)
    else
      (mw_gr S2 y0 8 1).bind fun v5 =>
      mw_b2 (mw_v S2 v5 7 (pf_X7_length G N S2 v5)) fun v6 S6 =>
      if y4 = v6 then
        pf_X8_profile_47 G N (pf_X8_profile_9 G N n) y0 y1 y2 y3 y4 S6
      else
        (mw_gr S6 y0 8 1).bind fun v7 =>
        mw_b2 (mw_v S6 v7 7 (pf_X7_at G N S6 v7 y4)) fun v8 S8 =>
        if ¬ v8 = 124 then
          pf_X8_profile_9 G N n y0 y1 y2 y3 (y4 + 1) S8
        else
          pf_X8_profile_47 G N (pf_X8_profile_9 G N n) y0 y1 y2 y3 y4 S8
def pf_X8_profile (G : Nat → ClassId) (N : Nat) (S : mw_M) (h0 : Nat) : Option (Int32 × mw_M) :=
  pf_X8_profile_9 G N N h0 0 0 0 0 S
def pf_X5_runFrom (G : Nat → ClassId) (N : Nat) (S : mw_M) (h0 : Nat) (x1 : Int32) : Option (mw_M) :=
  (mw_pf S h0 5 2 (.int 1)).bind fun S1 =>
  (mw_pf S1 h0 5 3 (.int x1)).bind fun S2 =>
  some S2
def pf_X8_start (G : Nat → ClassId) (N : Nat) (S : mw_M) (h0 : Nat) (x1 : Int32) : Option (Nat × Int32 × mw_M) :=
  mw_b2 (mw_v S h0 8 (pf_X8_isRecording G N S h0 x1)) fun v1 S1 =>
  if ¬ v1 = 0 then
    (mw_gr S1 h0 8 7).bind fun v2 =>
    (mw_aq S1 v2 (G 5) x1).bind fun v3 =>
    mw_b2 (mw_v S1 v3 5 (pf_X5_is G N S1 v3 0)) fun v4 S4 =>
    if ¬ v4 = 0 then
      (mw_v S4 h0 8 (pf_X8_rotate G N S4 h0)).bind fun S5 =>
      (mw_gr S5 h0 8 10).bind fun v6 =>
      mw_b2 (mw_v S5 v6 2 (pf_X2_open G N S5 v6)) fun v7 S7 =>
      mw_b2 (mw_v S7 v7 1 (pf_X1_number G N S7 v7)) fun v8 S8 =>
      (mw_gr S8 h0 8 7).bind fun v9 =>
      (mw_aq S8 v9 (G 5) x1).bind fun v10 =>
      (mw_v S8 v10 5 (pf_X5_runFrom G N S8 v10 v8)).bind fun S11 =>
      some (0, v8, S11)
    else
      some (2, 0, S4)
  else
    some (1, 0, S1)
def pf_X5_endWith (G : Nat → ClassId) (N : Nat) (S : mw_M) (h0 : Nat) (x1 : Int32) : Option (mw_M) :=
  (mw_pf S h0 5 2 (.int 2)).bind fun S1 =>
  (mw_pf S1 h0 5 4 (.int x1)).bind fun S2 =>
  some S2
def pf_X8_endRecording (G : Nat → ClassId) (N : Nat) (S : mw_M) (h0 : Nat) (x1 : Nat) : Option (Int32 × mw_M) :=
  (mw_gr S h0 8 10).bind fun v1 =>
  mw_b2 (mw_v S v1 2 (pf_X2_open G N S v1)) fun v2 S2 =>
  mw_b2 (mw_v S2 v2 1 (pf_X1_number G N S2 v2)) fun v3 S3 =>
  (mw_v S3 h0 8 (pf_X8_rotate G N S3 h0)).bind fun S4 =>
  (mw_v S4 x1 5 (pf_X5_endWith G N S4 x1 v3)).bind fun S5 =>
  some (v3, S5)
def pf_X8_stop (G : Nat → ClassId) (N : Nat) (S : mw_M) (h0 : Nat) (x1 : Int32) : Option (Nat × Int32 × mw_M) :=
  mw_b2 (mw_v S h0 8 (pf_X8_isRecording G N S h0 x1)) fun v1 S1 =>
  if ¬ v1 = 0 then
    (mw_gr S1 h0 8 7).bind fun v2 =>
    (mw_aq S1 v2 (G 5) x1).bind fun v3 =>
    mw_b2 (mw_v S1 v3 5 (pf_X5_is G N S1 v3 1)) fun v4 S4 =>
    if ¬ v4 = 0 then
      (mw_gr S4 h0 8 7).bind fun v5 =>
      (mw_aq S4 v5 (G 5) x1).bind fun v6 =>
      mw_b2 (mw_v S4 h0 8 (pf_X8_endRecording G N S4 h0 v6)) fun v7 S7 =>
      some (0, v7, S7)
    else
      some (2, 0, S4)
  else
    some (1, 0, S1)
def pf_X5_shut (G : Nat → ClassId) (N : Nat) (S : mw_M) (h0 : Nat) : Option (mw_M) :=
  (mw_pf S h0 5 2 (.int 3)).bind fun S1 =>
  some S1
def pf_X8_close_59 (G : Nat → ClassId) (N : Nat) (y2 : Nat) (y3 : Int32) (S : mw_M) : Option (Nat × Int32 × mw_M) :=
  (mw_v S y2 5 (pf_X5_shut G N S y2)).bind fun S1 =>
  if vp_nar .boolean y3 = y3 then some (0, y3, S1) else none
def pf_X8_close (G : Nat → ClassId) (N : Nat) (S : mw_M) (h0 : Nat) (x1 : Int32) : Option (Nat × Int32 × mw_M) :=
  mw_b2 (mw_v S h0 8 (pf_X8_isRecording G N S h0 x1)) fun v1 S1 =>
  if ¬ v1 = 0 then
    (mw_gr S1 h0 8 7).bind fun v2 =>
    (mw_aq S1 v2 (G 5) x1).bind fun v3 =>
    mw_b2 (mw_v S1 v3 5 (pf_X5_is G N S1 v3 3)) fun v4 S4 =>
    if v4 = 0 then
      mw_b2 (mw_v S4 v3 5 (pf_X5_is G N S4 v3 1)) fun v5 S5 =>
      if v5 = 0 then
        pf_X8_close_59 G N v3 v5 S5
      else
        mw_b2 (mw_v S5 h0 8 (pf_X8_endRecording G N S5 h0 v3)) fun v6 S6 =>
        pf_X8_close_59 G N v3 v5 S6
    else
      some (2, 0, S4)
  else
    some (1, 0, S1)
def pf_X5_firstChunk (G : Nat → ClassId) (N : Nat) (S : mw_M) (h0 : Nat) : Option (Int32 × mw_M) :=
  (mw_gi S h0 5 3).bind fun v1 =>
  some (v1, S)
def pf_X5_lastChunk (G : Nat → ClassId) (N : Nat) (S : mw_M) (h0 : Nat) : Option (Int32 × mw_M) :=
  (mw_gi S h0 5 4).bind fun v1 =>
  some (v1, S)
def pf_X1_countStrings_4 (G : Nat → ClassId) (N : Nat) : Nat → Nat → Int32 → Int32 → mw_M → Option (Int32 × mw_M)
  | 0, _, _, _, _ => none
  | n + 1, y0, y1, y2, S =>
    if 24 ≤ y2 then
      some (y1, S)
    else
      (mw_gr S y0 1 1).bind fun v1 =>
      (mw_ai S v1 (G 3) y2).bind fun v2 =>
      if v2 = 0 then
        pf_X1_countStrings_4 G N n y0 y1 (y2 + 1) S
      else
        pf_X1_countStrings_4 G N n y0 (y1 + 1) (y2 + 1) S
def pf_X1_countStrings (G : Nat → ClassId) (N : Nat) (S : mw_M) (h0 : Nat) : Option (Int32 × mw_M) :=
  pf_X1_countStrings_4 G N N h0 0 0 S
def pf_X6_writeTo_30 (G : Nat → ClassId) (N : Nat) : Nat → Nat → Nat → Int32 → Int32 → mw_M → Option (mw_M)
  | 0, _, _, _, _, _ => none
  | n + 1, y0, y1, y2, y3, S =>
    (mw_gr S y0 6 1).bind fun v1 =>
    (mw_ai S v1 (G 0) y2).bind fun v2 =>
    if v2 ≤ y3 then
      some S
    else
      (mw_gr S y0 6 0).bind fun v3 =>
      (mw_ai S v3 (G 2) ((y2 * 8) + y3)).bind fun v4 =>
      (mw_v S y1 0 (pf_X0_add G N S y1 v4)).bind fun S5 =>
      pf_X6_writeTo_30 G N n y0 y1 y2 (y3 + 1) S5
def pf_X6_writeTo (G : Nat → ClassId) (N : Nat) (S : mw_M) (h0 : Nat) (x1 : Nat) (x2 : Int32) : Option (mw_M) :=
  if x2 < 0 then
    some S
  else
    (mw_gi S h0 6 2).bind fun v1 =>
    if x2 < v1 then
      (mw_v S x1 0 (pf_X0_addVariable G N S x1 x2)).bind fun S2 =>
      (mw_gr S2 h0 6 1).bind fun v3 =>
      (mw_ai S2 v3 (G 0) x2).bind fun v4 =>
      (mw_v S2 x1 0 (pf_X0_addVariable G N S2 x1 v4)).bind fun S5 =>
      pf_X6_writeTo_30 G N N h0 x1 x2 0 S5
    else
      some S
def pf_X1_writeTo_53 (G : Nat → ClassId) (N : Nat) : Nat → Nat → Nat → Nat → Int32 → mw_M → Option (mw_M)
  | 0, _, _, _, _, _ => none
  | n + 1, y0, y1, y2, y3, S =>
    if 24 ≤ y3 then
      some S
    else
      (mw_gr S y0 1 1).bind fun v1 =>
      (mw_ai S v1 (G 3) y3).bind fun v2 =>
      if v2 = 0 then
        pf_X1_writeTo_53 G N n y0 y1 y2 (y3 + 1) S
      else
        (mw_v S y2 6 (pf_X6_writeTo G N S y2 y1 y3)).bind fun S3 =>
        pf_X1_writeTo_53 G N n y0 y1 y2 (y3 + 1) S3
def pf_X1_writeTo (G : Nat → ClassId) (N : Nat) (S : mw_M) (h0 : Nat) (x1 : Nat) (x2 : Nat) : Option (mw_M) :=
  (mw_v S x1 0 (pf_X0_add G N S x1 70)).bind fun S1 =>
  (mw_gi S1 h0 1 2).bind fun v2 =>
  (mw_v S1 x1 0 (pf_X0_addVariable G N S1 x1 v2)).bind fun S3 =>
  (mw_gi S3 h0 1 3).bind fun v4 =>
  (mw_v S3 x1 0 (pf_X0_addVariable G N S3 x1 v4)).bind fun S5 =>
  (mw_gi S5 h0 1 4).bind fun v6 =>
  (mw_v S5 x1 0 (pf_X0_addVariable G N S5 x1 v6)).bind fun S7 =>
  (mw_gr S7 h0 1 0).bind fun v8 =>
  (mw_v S7 x1 0 (pf_X0_addRow G N S7 x1 v8)).bind fun S9 =>
  (mw_v S9 x1 0 (pf_X0_add G N S9 x1 0)).bind fun S10 =>
  mw_b2 (mw_v S10 h0 1 (pf_X1_countStrings G N S10 h0)) fun v11 S11 =>
  (mw_v S11 x1 0 (pf_X0_addVariable G N S11 x1 v11)).bind fun S12 =>
  pf_X1_writeTo_53 G N N h0 x1 x2 0 S12
def pf_X2_writeKept_3 (G : Nat → ClassId) (N : Nat) : Nat → Nat → Nat → Nat → Int32 → Int32 → Int32 → mw_M → Option (mw_M)
  | 0, _, _, _, _, _, _, _ => none
  | n + 1, y0, y1, y2, y3, y4, y5, S =>
    (mw_gi S y0 2 1).bind fun v1 =>
    if v1 ≤ y5 then
      some S
    else
      (mw_gr S y0 2 0).bind fun v2 =>
      (mw_aq S v2 (G 7) y5).bind fun v3 =>
      mw_b2 (mw_v S v3 1 (pf_X1_number G N S v3)) fun v4 S4 =>
      if v4 < y3 then
        pf_X2_writeKept_3 G N n y0 y1 y2 y3 y4 (y5 + 1) S4
      else
        (mw_gr S4 y0 2 0).bind fun v5 =>
        (mw_aq S4 v5 (G 7) y5).bind fun v6 =>
        mw_b2 (mw_v S4 v6 1 (pf_X1_number G N S4 v6)) fun v7 S7 =>
        if y4 < v7 then
          pf_X2_writeKept_3 G N n y0 y1 y2 y3 y4 (y5 + 1) S7
        else
          (mw_gr S7 y0 2 0).bind fun v8 =>
          (mw_aq S7 v8 (G 7) y5).bind fun v9 =>
          (mw_v S7 v9 1 (pf_X1_writeTo G N S7 v9 y1 y2)).bind fun S10 =>
          pf_X2_writeKept_3 G N n y0 y1 y2 y3 y4 (y5 + 1) S10
def pf_X2_writeKept (G : Nat → ClassId) (N : Nat) (S : mw_M) (h0 : Nat) (x1 : Nat) (x2 : Nat) (x3 : Int32) (x4 : Int32) : Option (mw_M) :=
  pf_X2_writeKept_3 G N N h0 x1 x2 x3 x4 0 S
def pf_X8_dump_41 (G : Nat → ClassId) (N : Nat) (S : mw_M) : Option (Nat × Int32 × mw_M) :=
  some (2, 0, S)
def pf_X8_dump_63 (G : Nat → ClassId) (N : Nat) (y0 : Nat) (y2 : Nat) (S : mw_M) : Option (Nat × Int32 × mw_M) :=
  (mw_gr S y0 8 12).bind fun v1 =>
  (mw_v S v1 0 (pf_X0_clear G N S v1)).bind fun S2 =>
  (mw_gr S2 y0 8 10).bind fun v3 =>
  (mw_gr S2 y0 8 12).bind fun v4 =>
  (mw_gr S2 y0 8 2).bind fun v5 =>
  mw_b2 (mw_v S2 y2 5 (pf_X5_firstChunk G N S2 y2)) fun v6 S6 =>
  mw_b2 (mw_v S6 y2 5 (pf_X5_lastChunk G N S6 y2)) fun v7 S7 =>
  (mw_v S7 v3 2 (pf_X2_writeKept G N S7 v3 v4 v5 v6 v7)).bind fun S8 =>
  (mw_gr S8 y0 8 12).bind fun v9 =>
  mw_b2 (mw_v S8 v9 0 (pf_X0_length G N S8 v9)) fun v10 S10 =>
  some (0, v10, S10)
def pf_X8_dump (G : Nat → ClassId) (N : Nat) (S : mw_M) (h0 : Nat) (x1 : Int32) : Option (Nat × Int32 × mw_M) :=
  mw_b2 (mw_v S h0 8 (pf_X8_isRecording G N S h0 x1)) fun v1 S1 =>
  if ¬ v1 = 0 then
    (mw_gr S1 h0 8 7).bind fun v2 =>
    (mw_aq S1 v2 (G 5) x1).bind fun v3 =>
    mw_b2 (mw_v S1 v3 5 (pf_X5_is G N S1 v3 0)) fun v4 S4 =>
    if ¬ v4 = 0 then
      pf_X8_dump_41 G N S4
    else
      mw_b2 (mw_v S4 v3 5 (pf_X5_is G N S4 v3 3)) fun v5 S5 =>
      if v5 = 0 then
        mw_b2 (mw_v S5 v3 5 (pf_X5_is G N S5 v3 1)) fun v6 S6 =>
        if v6 = 0 then
          pf_X8_dump_63 G N h0 v3 S6
        else
          (mw_v S6 h0 8 (pf_X8_rotate G N S6 h0)).bind fun S7 =>
          pf_X8_dump_63 G N h0 v3 S7
      else
        pf_X8_dump_41 G N S5
  else
    some (1, 0, S1)
def pf_X0_at (G : Nat → ClassId) (N : Nat) (S : mw_M) (h0 : Nat) (x1 : Int32) : Option (Int32 × mw_M) :=
  if x1 < 0 then
    some ((-1), S)
  else
    (mw_gi S h0 0 1).bind fun v1 =>
    if v1 ≤ x1 then
      some ((-1), S)
    else
      (mw_gr S h0 0 0).bind fun v2 =>
      (mw_ai S v2 (G 1) x1).bind fun v3 =>
      some ((v3 &&& 255), S)
def pf_X8_output (G : Nat → ClassId) (N : Nat) (S : mw_M) (h0 : Nat) (x1 : Int32) : Option (Int32 × mw_M) :=
  (mw_gr S h0 8 12).bind fun v1 =>
  mw_b2 (mw_v S v1 0 (pf_X0_at G N S v1 x1)) fun v2 S2 =>
  some (v2, S2)
def pf_X5_phase (G : Nat → ClassId) (N : Nat) (S : mw_M) (h0 : Nat) : Option (Int32 × mw_M) :=
  (mw_gi S h0 5 2).bind fun v1 =>
  some (v1, S)
def pf_X8_state (G : Nat → ClassId) (N : Nat) (S : mw_M) (h0 : Nat) (x1 : Int32) : Option (Int32 × mw_M) :=
  mw_b2 (mw_v S h0 8 (pf_X8_isRecording G N S h0 x1)) fun v1 S1 =>
  if v1 = 0 then
    some ((-1), S1)
  else
    (mw_gr S1 h0 8 7).bind fun v2 =>
    (mw_aq S1 v2 (G 5) x1).bind fun v3 =>
    mw_b2 (mw_v S1 v3 5 (pf_X5_phase G N S1 v3)) fun v4 S4 =>
    some (v4, S4)
def pf_X8_threshold (G : Nat → ClassId) (N : Nat) (S : mw_M) (h0 : Nat) (x1 : Int32) (x2 : Int32) : Option (Int32 × mw_M) :=
  mw_b2 (mw_v S h0 8 (pf_X8_isRecording G N S h0 x1)) fun v1 S1 =>
  if v1 = 0 then
    some ((-1), S1)
  else
    mw_b2 (mw_v S1 h0 8 (pf_X8_isType G N S1 h0 x2)) fun v2 S2 =>
    if v2 = 0 then
      some ((-1), S2)
    else
      (mw_gr S2 h0 8 7).bind fun v3 =>
      (mw_aq S2 v3 (G 5) x1).bind fun v4 =>
      mw_b2 (mw_v S2 v4 5 (pf_X5_isOn G N S2 v4 x2)) fun v5 S5 =>
      if ¬ v5 = 0 then
        (mw_gr S5 h0 8 7).bind fun v6 =>
        (mw_aq S5 v6 (G 5) x1).bind fun v7 =>
        mw_b2 (mw_v S5 v7 5 (pf_X5_leastDuration G N S5 v7 x2)) fun v8 S8 =>
        some (v8, S8)
      else
        some ((-1), S5)
def pf_X8_buffered (G : Nat → ClassId) (N : Nat) (S : mw_M) (h0 : Nat) (x1 : Int32) : Option (Int32 × mw_M) :=
  mw_b2 (pf_X8_isThread G N S x1) fun v1 S1 =>
  if v1 = 0 then
    some ((-1), S1)
  else
    (mw_gr S1 h0 8 3).bind fun v2 =>
    (mw_aq S1 v2 (G 4) x1).bind fun v3 =>
    mw_b2 (mw_v S1 v3 3 (pf_X3_buffer G N S1 v3)) fun v4 S4 =>
    mw_b2 (mw_v S4 v4 0 (pf_X0_length G N S4 v4)) fun v5 S5 =>
    some (v5, S5)
def pf_X4_full (G : Nat → ClassId) (N : Nat) (S : mw_M) (h0 : Nat) : Option (Int32 × mw_M) :=
  (mw_gi S h0 4 2).bind fun v1 =>
  some (v1, S)
def pf_X2_kept (G : Nat → ClassId) (N : Nat) (S : mw_M) (h0 : Nat) : Option (Int32 × mw_M) :=
  (mw_gi S h0 2 1).bind fun v1 =>
  some (v1, S)
def pf_X2_evicted (G : Nat → ClassId) (N : Nat) (S : mw_M) (h0 : Nat) : Option (Int32 × mw_M) :=
  (mw_gi S h0 2 2).bind fun v1 =>
  some (v1, S)
def pf_X6_used (G : Nat → ClassId) (N : Nat) (S : mw_M) (h0 : Nat) : Option (Int32 × mw_M) :=
  (mw_gi S h0 6 2).bind fun v1 =>
  some (v1, S)
def pf_X8_count (G : Nat → ClassId) (N : Nat) (S : mw_M) (h0 : Nat) (x1 : Int32) : Option (Int32 × mw_M) :=
  if x1 = 0 then
    (mw_gr S h0 8 9).bind fun v1 =>
    mw_b2 (mw_v S v1 4 (pf_X4_full G N S v1)) fun v2 S2 =>
    some (v2, S2)
  else
  if x1 = 1 then
    (mw_gr S h0 8 10).bind fun v3 =>
    mw_b2 (mw_v S v3 2 (pf_X2_open G N S v3)) fun v4 S4 =>
    mw_b2 (mw_v S4 v4 1 (pf_X1_number G N S4 v4)) fun v5 S5 =>
    some (v5, S5)
  else
  if x1 = 2 then
    (mw_gr S h0 8 10).bind fun v6 =>
    mw_b2 (mw_v S v6 2 (pf_X2_open G N S v6)) fun v7 S7 =>
    mw_b2 (mw_v S7 v7 1 (pf_X1_body G N S7 v7)) fun v8 S8 =>
    mw_b2 (mw_v S8 v8 0 (pf_X0_length G N S8 v8)) fun v9 S9 =>
    some (v9, S9)
  else
  if x1 = 3 then
    (mw_gr S h0 8 10).bind fun v10 =>
    mw_b2 (mw_v S v10 2 (pf_X2_kept G N S v10)) fun v11 S11 =>
    some (v11, S11)
  else
  if x1 = 4 then
    (mw_gr S h0 8 10).bind fun v12 =>
    mw_b2 (mw_v S v12 2 (pf_X2_evicted G N S v12)) fun v13 S13 =>
    some (v13, S13)
  else
  if x1 = 5 then
    (mw_gr S h0 8 2).bind fun v14 =>
    mw_b2 (mw_v S v14 6 (pf_X6_used G N S v14)) fun v15 S15 =>
    some (v15, S15)
  else
  some ((-1), S)
def pf_X3_lostInAll (G : Nat → ClassId) (N : Nat) (S : mw_M) (h0 : Nat) : Option (Int32 × mw_M) :=
  (mw_gi S h0 3 4).bind fun v1 =>
  some (v1, S)
def pf_X8_lost (G : Nat → ClassId) (N : Nat) (S : mw_M) (h0 : Nat) (x1 : Int32) : Option (Int32 × mw_M) :=
  mw_b2 (pf_X8_isThread G N S x1) fun v1 S1 =>
  if v1 = 0 then
    some ((-1), S1)
  else
    (mw_gr S1 h0 8 3).bind fun v2 =>
    (mw_aq S1 v2 (G 4) x1).bind fun v3 =>
    mw_b2 (mw_v S1 v3 3 (pf_X3_lostInAll G N S1 v3)) fun v4 S4 =>
    some (v4, S4)
def pf_X9_init_271 (G : Nat → ClassId) (N : Nat) (y0 : Nat) (w0 : Nat) (w1 : Int32) (S : mw_M) : Option (mw_M) :=
  (mw_pf S w0 9 2 (.int w1)).bind fun S1 =>
  (mw_gr S1 y0 9 23).bind fun v2 =>
  (mw_si S1 v2 (G 0) 6 1).bind fun S3 =>
  some S3
def pf_X9_init_248 (G : Nat → ClassId) (N : Nat) (y0 : Nat) (y3 : Int32) (w0 : Nat) (w1 : Int32) (S : mw_M) : Option (mw_M) :=
  (mw_pf S w0 9 1 (.int w1)).bind fun S1 =>
  if 1 ≤ y3 then
    if y3 ≤ 5 then
      pf_X9_init_271 G N y0 y0 y3 S1
    else
      pf_X9_init_271 G N y0 y0 5 S1
  else
    pf_X9_init_271 G N y0 y0 1 S1
def pf_X9_init_226 (G : Nat → ClassId) (N : Nat) (y0 : Nat) (y2 : Int32) (y3 : Int32) (w0 : Nat) (w1 : Int32) (S : mw_M) : Option (mw_M) :=
  (mw_pf S w0 9 0 (.int w1)).bind fun S1 =>
  if 0 ≤ y2 then
    if y2 ≤ 4 then
      pf_X9_init_248 G N y0 y3 y0 y2 S1
    else
      pf_X9_init_248 G N y0 y3 y0 4 S1
  else
    pf_X9_init_248 G N y0 y3 y0 0 S1
def pf_X9_init (G : Nat → ClassId) (N : Nat) (S : mw_M) (h0 : Nat) (x1 : Int32) (x2 : Int32) (x3 : Int32) : Option (mw_M) :=
  mw_b2 (mw_na S (G 2) 40 40) fun v1 S1 =>
  (mw_pf S1 h0 9 6 (.ref v1)).bind fun S2 =>
  mw_b2 (mw_na S2 (G 0) 6 6) fun v3 S3 =>
  (mw_pf S3 h0 9 8 (.ref v3)).bind fun S4 =>
  mw_b2 (mw_na S4 (G 3) 6 6) fun v5 S5 =>
  (mw_pf S5 h0 9 9 (.ref v5)).bind fun S6 =>
  mw_b2 (mw_na S6 (G 2) 192 192) fun v7 S7 =>
  (mw_pf S7 h0 9 11 (.ref v7)).bind fun S8 =>
  mw_b2 (mw_na S8 (G 0) 24 24) fun v9 S9 =>
  (mw_pf S9 h0 9 12 (.ref v9)).bind fun S10 =>
  mw_b2 (mw_na S10 (G 0) 3 3) fun v11 S11 =>
  (mw_pf S11 h0 9 13 (.ref v11)).bind fun S12 =>
  mw_b2 (mw_na S12 (G 0) 9 9) fun v13 S13 =>
  (mw_pf S13 h0 9 14 (.ref v13)).bind fun S14 =>
  mw_b2 (mw_na S14 (G 0) 420 420) fun v15 S15 =>
  (mw_pf S15 h0 9 15 (.ref v15)).bind fun S16 =>
  mw_b2 (mw_na S16 (G 0) 7 7) fun v17 S17 =>
  (mw_pf S17 h0 9 16 (.ref v17)).bind fun S18 =>
  mw_b2 (mw_na S18 (G 0) 7 7) fun v19 S19 =>
  (mw_pf S19 h0 9 17 (.ref v19)).bind fun S20 =>
  mw_b2 (mw_na S20 (G 0) 4200 4200) fun v21 S21 =>
  (mw_pf S21 h0 9 21 (.ref v21)).bind fun S22 =>
  mw_b2 (mw_na S22 (G 0) 7 7) fun v23 S23 =>
  (mw_pf S23 h0 9 22 (.ref v23)).bind fun S24 =>
  mw_b2 (mw_na S24 (G 0) 7 7) fun v25 S25 =>
  (mw_pf S25 h0 9 23 (.ref v25)).bind fun S26 =>
  mw_b2 (mw_na S26 (G 0) 7 7) fun v27 S27 =>
  (mw_pf S27 h0 9 24 (.ref v27)).bind fun S28 =>
  mw_b2 (mw_na S28 (G 0) 7 7) fun v29 S29 =>
  (mw_pf S29 h0 9 25 (.ref v29)).bind fun S30 =>
  mw_b2 (mw_na S30 (G 0) 7 7) fun v31 S31 =>
  (mw_pf S31 h0 9 26 (.ref v31)).bind fun S32 =>
  mw_b2 (mw_na S32 (G 0) 3 3) fun v33 S33 =>
  (mw_pf S33 h0 9 27 (.ref v33)).bind fun S34 =>
  mw_b2 (mw_na S34 (G 0) 3 3) fun v35 S35 =>
  (mw_pf S35 h0 9 28 (.ref v35)).bind fun S36 =>
  mw_b2 (mw_na S36 (G 0) 4 4) fun v37 S37 =>
  (mw_pf S37 h0 9 30 (.ref v37)).bind fun S38 =>
  mw_b2 (mw_na S38 (G 3) 24 24) fun v39 S39 =>
  (mw_pf S39 h0 9 31 (.ref v39)).bind fun S40 =>
  mw_b2 (mw_na S40 (G 0) 24 24) fun v41 S41 =>
  (mw_pf S41 h0 9 32 (.ref v41)).bind fun S42 =>
  mw_b2 (mw_na S42 (G 0) 4 4) fun v43 S43 =>
  (mw_pf S43 h0 9 33 (.ref v43)).bind fun S44 =>
  mw_b2 (mw_na S44 (G 0) 4 4) fun v45 S45 =>
  (mw_pf S45 h0 9 34 (.ref v45)).bind fun S46 =>
  mw_b2 (mw_na S46 (G 0) 4400 4400) fun v47 S47 =>
  (mw_pf S47 h0 9 35 (.ref v47)).bind fun S48 =>
  mw_b2 (mw_na S48 (G 0) 64 64) fun v49 S49 =>
  (mw_pf S49 h0 9 37 (.ref v49)).bind fun S50 =>
  if 16 ≤ x1 then
    if x1 ≤ 60 then
      pf_X9_init_226 G N h0 x2 x3 h0 x1 S50
    else
      pf_X9_init_226 G N h0 x2 x3 h0 60 S50
  else
    pf_X9_init_226 G N h0 x2 x3 h0 16 S50
def pf_X9_thrown (G : Nat → ClassId) (N : Nat) (S : mm_M) : Option (Int32 × mm_M) :=
  some ((S.1 4), S)
def pf_X9_isThread (G : Nat → ClassId) (N : Nat) (S : mm_M) (x0 : Int32) : Option (Int32 × mm_M) :=
  if x0 < 0 then
    if vp_nar .boolean 0 = 0 then some (0, S) else none
  else
    if 2 < x0 then
      if vp_nar .boolean 0 = 0 then some (0, S) else none
    else
      if vp_nar .boolean 1 = 1 then some (1, S) else none
def pf_X9_isRecording (G : Nat → ClassId) (N : Nat) (S : mm_M) (x1 : Int32) : Option (Int32 × mm_M) :=
  if x1 < 0 then
    if vp_nar .boolean 0 = 0 then some (0, S) else none
  else
    if (S.1 29) ≤ x1 then
      if vp_nar .boolean 0 = 0 then some (0, S) else none
    else
      if vp_nar .boolean 1 = 1 then some (1, S) else none
def pf_X9_write (G : Nat → ClassId) (N : Nat) (S : mm_M) (x1 : Int32) : Option (Int32 × mm_M) :=
  (mm_pf S 4 0).bind fun S1 =>
  if 40 ≤ (S1.1 5) then
    if vp_nar .boolean 0 = 0 then some (0, S1) else none
  else
    if x1 < 32 then
      if vp_nar .boolean 0 = 0 then some (0, S1) else none
    else
      if x1 ≤ 126 then
        (mm_si S1 0 (S1.1 5) (vp_nar .char x1)).bind fun S2 =>
        (mm_pf S2 5 ((S2.1 5) + 1)).bind fun S3 =>
        if vp_nar .boolean 1 = 1 then some (1, S3) else none
      else
        if vp_nar .boolean 0 = 0 then some (0, S1) else none
def pf_X9_advance_26 (G : Nat → ClassId) (N : Nat) (S : mm_M) : Option (Int32 × mm_M) :=
  (mm_pf S 3 (S.1 3)).bind fun S1 =>
  some ((S1.1 3), S1)
def pf_X9_advance (G : Nat → ClassId) (N : Nat) (S : mm_M) (x1 : Int32) : Option (Int32 × mm_M) :=
  (mm_pf S 4 0).bind fun S1 =>
  if x1 < 0 then
    pf_X9_advance_26 G N S1
  else
    if 1000 < x1 then
      pf_X9_advance_26 G N S1
    else
      (mm_pf S1 3 ((S1.1 3) + x1)).bind fun S2 =>
      some ((S2.1 3), S2)
def pf_X9_type_28 (G : Nat → ClassId) (N : Nat) (y1 : Int32) (y2 : Int32) (w1 : Int32) (S : mm_M) : Option (Int32 × mm_M) :=
  (mm_pf S 4 w1).bind fun S1 =>
  if (S1.1 4) ≤ 0 then
    (mm_si S1 1 (S1.1 7) y1).bind fun S2 =>
    (mm_si S2 2 (S2.1 7) (vp_nar .boolean y2)).bind fun S3 =>
    (mm_pf S3 7 ((S3.1 7) + 1)).bind fun S4 =>
    some (((S4.1 7) - 1), S4)
  else
    some (0, S1)
def pf_X9_type_10 (G : Nat → ClassId) (N : Nat) (y1 : Int32) (y2 : Int32) (S : mm_M) : Option (Int32 × mm_M) :=
  pf_X9_type_28 G N y1 y2 1 S
def pf_X9_type (G : Nat → ClassId) (N : Nat) (S : mm_M) (x1 : Int32) (x2 : Int32) : Option (Int32 × mm_M) :=
  if x1 < 0 then
    pf_X9_type_10 G N x1 x2 S
  else
    if x1 ≤ 3 then
      if ¬ (S.1 7) = 6 then
        pf_X9_type_28 G N x1 x2 0 S
      else
        pf_X9_type_28 G N x1 x2 2 S
    else
      pf_X9_type_10 G N x1 x2 S
def pf_X9_begin (G : Nat → ClassId) (N : Nat) (S : mm_M) (x1 : Int32) : Option (Int32 × mm_M) :=
  (mm_pf S 4 0).bind fun S1 =>
  mw_b2 (pf_X9_isThread G N S1 x1) fun v2 S2 =>
  if v2 = 0 then
    if vp_nar .boolean 0 = 0 then some (0, S2) else none
  else
    (mm_ai S2 5 x1).bind fun v3 =>
    if ¬ v3 = 3 then
      (mm_ai S2 5 x1).bind fun v4 =>
      (mm_si S2 6 ((3 * x1) + v4) (S2.1 3)).bind fun S5 =>
      (mm_ai S5 5 x1).bind fun v6 =>
      (mm_si S5 5 x1 (v6 + 1)).bind fun S7 =>
      if vp_nar .boolean 1 = 1 then some (1, S7) else none
    else
      if vp_nar .boolean 0 = 0 then some (0, S2) else none
def pf_X9_variable_39 (G : Nat → ClassId) (N : Nat) (k4 : Int32 → Int32 → mm_M → Option (mm_M)) (y3 : Int32) (y4 : Int32) (w1 : Int32) (w2 : Int32) (w3 : Int32) (S : mm_M) : Option (mm_M) :=
  (mm_si S 24 w1 (w2 + w3)).bind fun S1 =>
  (mm_pf S1 38 ((S1.1 38) + 1)).bind fun S2 =>
  if ¬ y4 = 0 then
    k4 y4 (y3 + 1) S2
  else
    some S2
def pf_X9_variable_4 (G : Nat → ClassId) (N : Nat) : Nat → Int32 → Int32 → mm_M → Option (mm_M)
  | 0, _, _, _ => none
  | n + 1, y2, y3, S =>
    if 5 ≤ y3 then
      some S
    else
      if (mw_ushr y2 7) = 0 then
        pf_X9_variable_39 G N (pf_X9_variable_4 G N n) y3 (mw_ushr y2 7) (S.1 38) (y2 &&& 127) 0 S
      else
        pf_X9_variable_39 G N (pf_X9_variable_4 G N n) y3 (mw_ushr y2 7) (S.1 38) (y2 &&& 127) 128 S
def pf_X9_variable (G : Nat → ClassId) (N : Nat) (S : mm_M) (x1 : Int32) : Option (mm_M) :=
  pf_X9_variable_4 G N N x1 0 S
def pf_X9_width_7 (G : Nat → ClassId) (N : Nat) : Nat → Int32 → Int32 → mm_M → Option (Int32 × mm_M)
  | 0, _, _, _ => none
  | n + 1, y1, y2, S =>
    if y2 = 0 then
      some (y1, S)
    else
      pf_X9_width_7 G N n (y1 + 1) (mw_ushr y2 7) S
def pf_X9_width (G : Nat → ClassId) (N : Nat) (S : mm_M) (x0 : Int32) : Option (Int32 × mm_M) :=
  pf_X9_width_7 G N N 1 (mw_ushr x0 7) S
def pf_X9_zigzag (G : Nat → ClassId) (N : Nat) (S : mm_M) (x0 : Int32) : Option (Int32 × mm_M) :=
  if 0 ≤ x0 then
    some ((2 * x0), S)
  else
    some ((((-2) * x0) - 1), S)
def pf_X9_stringOf_73 (G : Nat → ClassId) (N : Nat) (k2 : Int32 → Int32 → mm_M → Option (Int32 × mm_M)) (y1 : Int32) (y2 : Int32) (y3 : Int32) (S : mm_M) : Option (Int32 × mm_M) :=
  if y3 = 0 then
    k2 y1 (y2 + 1) S
  else
    some (y2, S)
def pf_X9_stringOf_29 (G : Nat → ClassId) (N : Nat) (k2 : Int32 → Int32 → mm_M → Option (Int32 × mm_M)) : Nat → Int32 → Int32 → Int32 → Int32 → mm_M → Option (Int32 × mm_M)
  | 0, _, _, _, _, _ => none
  | n + 1, y1, y2, y3, y4, S =>
    if y1 ≤ y4 then
      pf_X9_stringOf_73 G N k2 y1 y2 y3 S
    else
      if y3 = 0 then
        pf_X9_stringOf_73 G N k2 y1 y2 y3 S
      else
        (mm_ai S 3 ((8 * y2) + y4)).bind fun v1 =>
        (mm_ai S 0 y4).bind fun v2 =>
        if ¬ v1 = v2 then
          pf_X9_stringOf_29 G N k2 n y1 y2 0 (y4 + 1) S
        else
          pf_X9_stringOf_29 G N k2 n y1 y2 1 (y4 + 1) S
def pf_X9_stringOf_2 (G : Nat → ClassId) (N : Nat) : Nat → Int32 → Int32 → mm_M → Option (Int32 × mm_M)
  | 0, _, _, _ => none
  | n + 1, y1, y2, S =>
    if (S.1 10) ≤ y2 then
      some ((-1), S)
    else
      (mm_ai S 4 y2).bind fun v1 =>
      if ¬ v1 = y1 then
        pf_X9_stringOf_29 G N (pf_X9_stringOf_2 G N n) N y1 y2 0 0 S
      else
        pf_X9_stringOf_29 G N (pf_X9_stringOf_2 G N n) N y1 y2 1 0 S
def pf_X9_stringOf (G : Nat → ClassId) (N : Nat) (S : mm_M) (x1 : Int32) : Option (Int32 × mm_M) :=
  pf_X9_stringOf_2 G N N x1 0 S
def pf_X9_unwanted_5 (G : Nat → ClassId) (N : Nat) : Nat → Int32 → Int32 → Int32 → Int32 → mm_M → Option (Int32 × mm_M)
  | 0, _, _, _, _, _ => none
  | n + 1, y1, y2, y3, y4, S =>
    if (S.1 29) ≤ y4 then
      if y3 = 0 then
        some (2, S)
      else
        some (3, S)
    else
      (mm_ai S 18 y4).bind fun v1 =>
      if ¬ v1 = 1 then
        pf_X9_unwanted_5 G N n y1 y2 y3 (y4 + 1) S
      else
        (mm_ai S 19 ((6 * y4) + y1)).bind fun v2 =>
        if ¬ v2 = 0 then
          pf_X9_unwanted_5 G N n y1 y2 y3 (y4 + 1) S
        else
          (mm_ai S 20 ((6 * y4) + y1)).bind fun v3 =>
          if y2 < v3 then
            pf_X9_unwanted_5 G N n y1 y2 1 (y4 + 1) S
          else
            some (0, S)
def pf_X9_unwanted (G : Nat → ClassId) (N : Nat) (S : mm_M) (x1 : Int32) (x2 : Int32) : Option (Int32 × mm_M) :=
  pf_X9_unwanted_5 G N N x1 x2 0 0 S
def pf_X9_keepString_7 (G : Nat → ClassId) (N : Nat) : Nat → Int32 → Int32 → mm_M → Option (mm_M)
  | 0, _, _, _ => none
  | n + 1, y2, y3, S =>
    if y2 ≤ y3 then
      (mm_si S 4 (S.1 10) y2).bind fun S1 =>
      (mm_pf S1 10 ((S1.1 10) + 1)).bind fun S2 =>
      some S2
    else
      (mm_ai S 0 y3).bind fun v3 =>
      (mm_si S 3 ((8 * (S.1 10)) + y3) (vp_nar .char v3)).bind fun S4 =>
      pf_X9_keepString_7 G N n y2 (y3 + 1) S4
def pf_X9_keepString (G : Nat → ClassId) (N : Nat) (S : mm_M) (x1 : Int32) (x2 : Int32) : Option (mm_M) :=
  if x1 < 0 then
    pf_X9_keepString_7 G N N x2 0 S
  else
    some S
def pf_X9_move_2 (G : Nat → ClassId) (N : Nat) : Nat → Int32 → Int32 → Int32 → mm_M → Option (mm_M)
  | 0, _, _, _, _ => none
  | n + 1, y1, y2, y3, S =>
    (mm_ai S 8 y1).bind fun v1 =>
    if v1 ≤ y3 then
      (mm_ai S 8 y1).bind fun v2 =>
      (mm_si S 8 y2 v2).bind fun S3 =>
      (mm_ai S3 9 y1).bind fun v4 =>
      (mm_si S3 9 y2 v4).bind fun S5 =>
      (mm_si S5 8 y1 0).bind fun S6 =>
      (mm_si S6 9 y1 0).bind fun S7 =>
      some S7
    else
      (mm_ai S 7 ((60 * y1) + y3)).bind fun v8 =>
      (mm_si S 7 ((60 * y2) + y3) v8).bind fun S9 =>
      pf_X9_move_2 G N n y1 y2 (y3 + 1) S9
def pf_X9_move (G : Nat → ClassId) (N : Nat) (S : mm_M) (x1 : Int32) (x2 : Int32) : Option (mm_M) :=
  pf_X9_move_2 G N N x1 x2 0 S
def pf_X9_commit_327 (G : Nat → ClassId) (N : Nat) (y1 : Int32) (S : mm_M) : Option (Int32 × mm_M) :=
  (mm_ai S 16 y1).bind fun v1 =>
  (mm_si S 16 y1 (v1 + 1)).bind fun S2 =>
  (mm_ai S2 17 y1).bind fun v3 =>
  (mm_si S2 17 y1 (v3 + 1)).bind fun S4 =>
  some (4, S4)
def pf_X9_commit_498 (G : Nat → ClassId) (N : Nat) : Nat → Int32 → Int32 → mm_M → Option (Int32 × mm_M)
  | 0, _, _, _ => none
  | n + 1, y1, y15, S =>
    if (S.1 38) ≤ y15 then
      (mm_ai S 8 y1).bind fun v1 =>
      (mm_si S 8 y1 (v1 + (S.1 38))).bind fun S2 =>
      (mm_ai S2 9 y1).bind fun v3 =>
      (mm_si S2 9 y1 (v3 + 1)).bind fun S4 =>
      some (0, S4)
    else
      (mm_ai S 8 y1).bind fun v5 =>
      (mm_ai S 24 y15).bind fun v6 =>
      (mm_si S 7 (((60 * y1) + v5) + y15) v6).bind fun S7 =>
      pf_X9_commit_498 G N n y1 (y15 + 1) S7
def pf_X9_commit_469 (G : Nat → ClassId) (N : Nat) (y1 : Int32) (y14 : Int32) (S : mm_M) : Option (Int32 × mm_M) :=
  if y14 = 0 then
    pf_X9_commit_498 G N N y1 0 S
  else
    (pf_X9_move G N S y1 (3 + (S.1 18))).bind fun S1 =>
    (mm_pf S1 18 ((S1.1 18) + 1)).bind fun S2 =>
    pf_X9_commit_498 G N N y1 0 S2
def pf_X9_commit_419 (G : Nat → ClassId) (N : Nat) (k385 : Int32 → Int32 → Int32 → Int32 → Int32 → Int32 → Int32 → Int32 → Int32 → Int32 → Int32 → mm_M → Option (Int32 × mm_M)) (y1 : Int32) (y2 : Int32) (y3 : Int32) (y4 : Int32) (y5 : Int32) (y6 : Int32) (y7 : Int32) (y10 : Int32) (y11 : Int32) (y14 : Int32) (y15 : Int32) (w1 : Int32) (S : mm_M) : Option (Int32 × mm_M) :=
  mw_b2 (pf_X9_zigzag G N S w1) fun v1 S1 =>
  (pf_X9_variable G N S1 v1).bind fun S2 =>
  k385 y1 y2 y3 y4 y5 y6 y7 y10 y11 y14 (y15 + 1) S2
def pf_X9_commit_385 (G : Nat → ClassId) (N : Nat) : Nat → Int32 → Int32 → Int32 → Int32 → Int32 → Int32 → Int32 → Int32 → Int32 → Int32 → Int32 → mm_M → Option (Int32 × mm_M)
  | 0, _, _, _, _, _, _, _, _, _, _, _, _ => none
  | n + 1, y1, y2, y3, y4, y5, y6, y7, y10, y11, y14, y15, S =>
    (mm_ai S 1 y2).bind fun v1 =>
    if v1 ≤ y15 then
      if y7 = 0 then
        pf_X9_commit_469 G N y1 y14 S
      else
        (pf_X9_variable G N S y11).bind fun S2 =>
        (pf_X9_keepString G N S2 y10 y6).bind fun S3 =>
        (mm_ai S3 15 6).bind fun v4 =>
        (mm_si S3 15 6 (v4 ||| (1 <<< (y11 &&& 31)))).bind fun S5 =>
        pf_X9_commit_469 G N y1 y14 S5
    else
      if ¬ y15 = 0 then
        if ¬ y15 = 1 then
          pf_X9_commit_419 G N (pf_X9_commit_385 G N n) y1 y2 y3 y4 y5 y6 y7 y10 y11 y14 y15 y5 S
        else
          pf_X9_commit_419 G N (pf_X9_commit_385 G N n) y1 y2 y3 y4 y5 y6 y7 y10 y11 y14 y15 y4 S
      else
        pf_X9_commit_419 G N (pf_X9_commit_385 G N n) y1 y2 y3 y4 y5 y6 y7 y10 y11 y14 y15 y3 S
def pf_X9_commit_349 (G : Nat → ClassId) (N : Nat) (y1 : Int32) (y2 : Int32) (y3 : Int32) (y4 : Int32) (y5 : Int32) (y6 : Int32) (y7 : Int32) (y8 : Int32) (y10 : Int32) (y11 : Int32) (y12 : Int32) (y14 : Int32) (S : mm_M) : Option (Int32 × mm_M) :=
  (mm_pf S 38 0).bind fun S1 =>
  (pf_X9_variable G N S1 y12).bind fun S2 =>
  (pf_X9_variable G N S2 y2).bind fun S3 =>
  (pf_X9_variable G N S3 y8).bind fun S4 =>
  (pf_X9_variable G N S4 ((S4.1 3) - y8)).bind fun S5 =>
  pf_X9_commit_385 G N N y1 y2 y3 y4 y5 y6 y7 y10 y11 y14 0 S5
def pf_X9_commit_302 (G : Nat → ClassId) (N : Nat) (y1 : Int32) (y2 : Int32) (y3 : Int32) (y4 : Int32) (y5 : Int32) (y6 : Int32) (y7 : Int32) (y8 : Int32) (y10 : Int32) (y11 : Int32) (y12 : Int32) (y13 : Int32) (y14 : Int32) (S : mm_M) : Option (Int32 × mm_M) :=
  if (S.1 0) < y13 then
    pf_X9_commit_327 G N y1 S
  else
    if y14 = 0 then
      pf_X9_commit_349 G N y1 y2 y3 y4 y5 y6 y7 y8 y10 y11 y12 y14 S
    else
      if ¬ (S.1 18) = (S.1 1) then
        pf_X9_commit_349 G N y1 y2 y3 y4 y5 y6 y7 y8 y10 y11 y12 y14 S
      else
        pf_X9_commit_327 G N y1 S
def pf_X9_commit_286 (G : Nat → ClassId) (N : Nat) (y1 : Int32) (y2 : Int32) (y3 : Int32) (y4 : Int32) (y5 : Int32) (y6 : Int32) (y7 : Int32) (y8 : Int32) (y10 : Int32) (y11 : Int32) (y12 : Int32) (y13 : Int32) (w0 : Int32) (S : mm_M) : Option (Int32 × mm_M) :=
  if 0 ≤ y10 then
    pf_X9_commit_302 G N y1 y2 y3 y4 y5 y6 y7 y8 y10 y11 y12 y13 w0 S
  else
    if (S.1 10) = 24 then
      pf_X9_commit_327 G N y1 S
    else
      pf_X9_commit_302 G N y1 y2 y3 y4 y5 y6 y7 y8 y10 y11 y12 y13 w0 S
def pf_X9_commit_240 (G : Nat → ClassId) (N : Nat) (k205 : Int32 → Int32 → Int32 → Int32 → Int32 → Int32 → Int32 → Int32 → Int32 → Int32 → Int32 → Int32 → mm_M → Option (Int32 × mm_M)) (y1 : Int32) (y2 : Int32) (y3 : Int32) (y4 : Int32) (y5 : Int32) (y6 : Int32) (y7 : Int32) (y8 : Int32) (y10 : Int32) (y11 : Int32) (y13 : Int32) (w0 : Int32) (w1 : Int32) (S : mm_M) : Option (Int32 × mm_M) :=
  mw_b2 (pf_X9_zigzag G N S w1) fun v1 S1 =>
  mw_b2 (pf_X9_width G N S1 v1) fun v2 S2 =>
  k205 y1 y2 y3 y4 y5 y6 y7 y8 y10 y11 (w0 + v2) (y13 + 1) S2
def pf_X9_commit_205 (G : Nat → ClassId) (N : Nat) : Nat → Int32 → Int32 → Int32 → Int32 → Int32 → Int32 → Int32 → Int32 → Int32 → Int32 → Int32 → Int32 → mm_M → Option (Int32 × mm_M)
  | 0, _, _, _, _, _, _, _, _, _, _, _, _, _ => none
  | n + 1, y1, y2, y3, y4, y5, y6, y7, y8, y10, y11, y12, y13, S =>
    (mm_ai S 1 y2).bind fun v1 =>
    if v1 ≤ y13 then
      mw_b2 (pf_X9_width G N S y12) fun v2 S2 =>
      (mm_ai S2 8 y1).bind fun v3 =>
      if (v3 + (v2 + y12)) ≤ (S2.1 0) then
        pf_X9_commit_286 G N y1 y2 y3 y4 y5 y6 y7 y8 y10 y11 y12 (v2 + y12) 0 S2
      else
        pf_X9_commit_286 G N y1 y2 y3 y4 y5 y6 y7 y8 y10 y11 y12 (v2 + y12) 1 S2
    else
      if ¬ y13 = 0 then
        if ¬ y13 = 1 then
          pf_X9_commit_240 G N (pf_X9_commit_205 G N n) y1 y2 y3 y4 y5 y6 y7 y8 y10 y11 y13 y12 y5 S
        else
          pf_X9_commit_240 G N (pf_X9_commit_205 G N n) y1 y2 y3 y4 y5 y6 y7 y8 y10 y11 y13 y12 y4 S
      else
        pf_X9_commit_240 G N (pf_X9_commit_205 G N n) y1 y2 y3 y4 y5 y6 y7 y8 y10 y11 y13 y12 y3 S
def pf_X9_commit_162 (G : Nat → ClassId) (N : Nat) (y1 : Int32) (y2 : Int32) (y3 : Int32) (y4 : Int32) (y5 : Int32) (y6 : Int32) (y7 : Int32) (y8 : Int32) (y10 : Int32) (w0 : Int32) (S : mm_M) : Option (Int32 × mm_M) :=
  mw_b2 (pf_X9_width G N S y2) fun v1 S1 =>
  mw_b2 (pf_X9_width G N S1 y8) fun v2 S2 =>
  mw_b2 (pf_X9_width G N S2 ((S2.1 3) - y8)) fun v3 S3 =>
  if y7 = 0 then
    pf_X9_commit_205 G N N y1 y2 y3 y4 y5 y6 y7 y8 y10 w0 (((v1 + v2) + v3) + 0) 0 S3
  else
    mw_b2 (pf_X9_width G N S3 w0) fun v4 S4 =>
    pf_X9_commit_205 G N N y1 y2 y3 y4 y5 y6 y7 y8 y10 w0 (((v1 + v2) + v3) + v4) 0 S4
def pf_X9_commit_146 (G : Nat → ClassId) (N : Nat) (y1 : Int32) (y2 : Int32) (y3 : Int32) (y4 : Int32) (y5 : Int32) (y6 : Int32) (y7 : Int32) (y8 : Int32) (w0 : Int32) (S : mm_M) : Option (Int32 × mm_M) :=
  if 0 ≤ w0 then
    pf_X9_commit_162 G N y1 y2 y3 y4 y5 y6 y7 y8 w0 w0 S
  else
    pf_X9_commit_162 G N y1 y2 y3 y4 y5 y6 y7 y8 w0 (S.1 10) S
def pf_X9_commit_68 (G : Nat → ClassId) (N : Nat) (y1 : Int32) (y2 : Int32) (y3 : Int32) (y4 : Int32) (y5 : Int32) (y6 : Int32) (y7 : Int32) (w1 : Int32) (S : mm_M) : Option (Int32 × mm_M) :=
  (mm_pf S 5 w1).bind fun S1 =>
  (mm_ai S1 5 y1).bind fun v2 =>
  if ¬ v2 = 0 then
    (mm_ai S1 5 y1).bind fun v3 =>
    (mm_si S1 5 y1 (v3 - 1)).bind fun S4 =>
    (mm_ai S4 5 y1).bind fun v5 =>
    (mm_ai S4 6 ((3 * y1) + v5)).bind fun v6 =>
    mw_b2 (pf_X9_unwanted G N S4 y2 ((S4.1 3) - v6)) fun v7 S7 =>
    if v7 ≤ 0 then
      if y7 = 0 then
        pf_X9_commit_146 G N y1 y2 y3 y4 y5 y6 y7 v6 0 S7
      else
        mw_b2 (pf_X9_stringOf G N S7 y6) fun v8 S8 =>
        pf_X9_commit_146 G N y1 y2 y3 y4 y5 y6 y7 v6 v8 S8
    else
      some (v7, S7)
  else
    some (1, S1)
def pf_X9_commit_44 (G : Nat → ClassId) (N : Nat) (y1 : Int32) (y2 : Int32) (y3 : Int32) (y4 : Int32) (y5 : Int32) (w0 : Int32) (S : mm_M) : Option (Int32 × mm_M) :=
  (mm_ai S 2 y2).bind fun v1 =>
  if v1 = 0 then
    pf_X9_commit_68 G N y1 y2 y3 y4 y5 w0 v1 (S.1 5) S
  else
    pf_X9_commit_68 G N y1 y2 y3 y4 y5 w0 v1 0 S
def pf_X9_commit (G : Nat → ClassId) (N : Nat) (S : mm_M) (x1 : Int32) (x2 : Int32) (x3 : Int32) (x4 : Int32) (x5 : Int32) : Option (Int32 × mm_M) :=
  (mm_pf S 4 0).bind fun S1 =>
  mw_b2 (pf_X9_isThread G N S1 x1) fun v2 S2 =>
  if v2 = 0 then
    some ((-1), S2)
  else
    if x2 < 0 then
      some ((-1), S2)
    else
      if x2 < (S2.1 7) then
        if 8 ≤ (S2.1 5) then
          pf_X9_commit_44 G N x1 x2 x3 x4 x5 8 S2
        else
          pf_X9_commit_44 G N x1 x2 x3 x4 x5 (S2.1 5) S2
      else
        some ((-1), S2)
def pf_X9_drain_9 (G : Nat → ClassId) (N : Nat) : Nat → Int32 → Int32 → Int32 → mm_M → Option (Int32 × mm_M)
  | 0, _, _, _, _ => none
  | n + 1, y1, y2, y3, S =>
    if y2 ≤ y3 then
      (mm_ai S 11 6).bind fun v1 =>
      (mm_si S 11 6 (v1 + y2)).bind fun S2 =>
      (mm_ai S2 14 6).bind fun v3 =>
      (mm_ai S2 9 y1).bind fun v4 =>
      (mm_si S2 14 6 (v3 + v4)).bind fun S5 =>
      (mm_si S5 8 y1 0).bind fun S6 =>
      (mm_si S6 9 y1 0).bind fun S7 =>
      some (y2, S7)
    else
      (mm_ai S 11 6).bind fun v8 =>
      (mm_ai S 7 ((60 * y1) + y3)).bind fun v9 =>
      (mm_si S 10 ((3600 + v8) + y3) v9).bind fun S10 =>
      pf_X9_drain_9 G N n y1 y2 (y3 + 1) S10
def pf_X9_drain (G : Nat → ClassId) (N : Nat) (S : mm_M) (x1 : Int32) : Option (Int32 × mm_M) :=
  (mm_ai S 8 x1).bind fun v1 =>
  pf_X9_drain_9 G N N x1 v1 0 S
def pf_X9_put (G : Nat → ClassId) (N : Nat) (S : mm_M) (x1 : Int32) : Option (mm_M) :=
  (mm_ai S 11 6).bind fun v1 =>
  (mm_si S 10 (3600 + v1) x1).bind fun S2 =>
  (mm_ai S2 11 6).bind fun v3 =>
  (mm_si S2 11 6 (v3 + 1)).bind fun S4 =>
  some S4
def pf_X9_loss_43 (G : Nat → ClassId) (N : Nat) : Nat → Int32 → Int32 → mm_M → Option (mm_M)
  | 0, _, _, _ => none
  | n + 1, y1, y2, S =>
    if (S.1 38) ≤ y2 then
      (mm_si S 16 y1 0).bind fun S1 =>
      some S1
    else
      (mm_ai S 24 y2).bind fun v2 =>
      (pf_X9_put G N S v2).bind fun S3 =>
      pf_X9_loss_43 G N n y1 (y2 + 1) S3
def pf_X9_loss (G : Nat → ClassId) (N : Nat) (S : mm_M) (x1 : Int32) : Option (mm_M) :=
  (mm_pf S 38 0).bind fun S1 =>
  (mm_ai S1 16 x1).bind fun v2 =>
  mw_b2 (pf_X9_width G N S1 v2) fun v3 S3 =>
  (pf_X9_variable G N S3 (2 + v3)).bind fun S4 =>
  (pf_X9_variable G N S4 63).bind fun S5 =>
  (pf_X9_variable G N S5 x1).bind fun S6 =>
  (mm_ai S6 16 x1).bind fun v7 =>
  (pf_X9_variable G N S6 v7).bind fun S8 =>
  pf_X9_loss_43 G N N x1 0 S8
def pf_X9_copyChunk_2 (G : Nat → ClassId) (N : Nat) : Nat → Int32 → Int32 → Int32 → mm_M → Option (mm_M)
  | 0, _, _, _, _ => none
  | n + 1, y1, y2, y3, S =>
    (mm_ai S 11 y1).bind fun v1 =>
    if v1 ≤ y3 then
      (mm_ai S 11 y1).bind fun v2 =>
      (mm_si S 11 y2 v2).bind fun S3 =>
      (mm_ai S3 12 y1).bind fun v4 =>
      (mm_si S3 12 y2 v4).bind fun S5 =>
      (mm_ai S5 13 y1).bind fun v6 =>
      (mm_si S5 13 y2 v6).bind fun S7 =>
      (mm_ai S7 14 y1).bind fun v8 =>
      (mm_si S7 14 y2 v8).bind fun S9 =>
      (mm_ai S9 15 y1).bind fun v10 =>
      (mm_si S9 15 y2 v10).bind fun S11 =>
      some S11
    else
      (mm_ai S 10 ((600 * y1) + y3)).bind fun v12 =>
      (mm_si S 10 ((600 * y2) + y3) v12).bind fun S13 =>
      pf_X9_copyChunk_2 G N n y1 y2 (y3 + 1) S13
def pf_X9_copyChunk (G : Nat → ClassId) (N : Nat) (S : mm_M) (x1 : Int32) (x2 : Int32) : Option (mm_M) :=
  pf_X9_copyChunk_2 G N N x1 x2 0 S
def pf_X9_rotate_162 (G : Nat → ClassId) (N : Nat) (S : mm_M) : Option (mm_M) :=
  (mm_ai S 12 6).bind fun v1 =>
  (mm_si S 12 6 (v1 + 1)).bind fun S2 =>
  (mm_si S2 13 6 (S2.1 3)).bind fun S3 =>
  (mm_si S3 11 6 0).bind fun S4 =>
  (mm_si S4 14 6 0).bind fun S5 =>
  (mm_si S5 15 6 0).bind fun S6 =>
  some S6
def pf_X9_rotate_118 (G : Nat → ClassId) (N : Nat) : Nat → Int32 → mm_M → Option (mm_M)
  | 0, _, _ => none
  | n + 1, y1, S =>
    if (S.1 19) ≤ (y1 + 1) then
      (mm_pf S 19 ((S.1 19) - 1)).bind fun S1 =>
      (mm_pf S1 20 ((S1.1 20) + 1)).bind fun S2 =>
      pf_X9_rotate_162 G N S2
    else
      (pf_X9_copyChunk G N S (y1 + 1) y1).bind fun S3 =>
      pf_X9_rotate_118 G N n (y1 + 1) S3
def pf_X9_rotate_105 (G : Nat → ClassId) (N : Nat) (S : mm_M) : Option (mm_M) :=
  if (S.1 19) ≤ (S.1 2) then
    pf_X9_rotate_162 G N S
  else
    pf_X9_rotate_118 G N N 0 S
def pf_X9_rotate_50 (G : Nat → ClassId) (N : Nat) : Nat → Int32 → mm_M → Option (mm_M)
  | 0, _, _ => none
  | n + 1, y1, S =>
    if 3 ≤ y1 then
      (mm_ai S 11 6).bind fun v1 =>
      if v1 ≤ 0 then
        pf_X9_rotate_105 G N S
      else
        (pf_X9_copyChunk G N S 6 (S.1 19)).bind fun S2 =>
        (mm_pf S2 19 ((S2.1 19) + 1)).bind fun S3 =>
        pf_X9_rotate_105 G N S3
    else
      (mm_ai S 16 y1).bind fun v4 =>
      if v4 ≤ 0 then
        pf_X9_rotate_50 G N n (y1 + 1) S
      else
        (pf_X9_loss G N S y1).bind fun S5 =>
        pf_X9_rotate_50 G N n (y1 + 1) S5
def pf_X9_rotate_31 (G : Nat → ClassId) (N : Nat) : Nat → Int32 → mm_M → Option (mm_M)
  | 0, _, _ => none
  | n + 1, y1, S =>
    if 3 ≤ y1 then
      pf_X9_rotate_50 G N N 0 S
    else
      mw_b2 (pf_X9_drain G N S y1) fun v1 S1 =>
      pf_X9_rotate_31 G N n (y1 + 1) S1
def pf_X9_rotate_2 (G : Nat → ClassId) (N : Nat) : Nat → Int32 → mm_M → Option (mm_M)
  | 0, _, _ => none
  | n + 1, y1, S =>
    if (S.1 18) ≤ y1 then
      (mm_pf S 18 0).bind fun S1 =>
      pf_X9_rotate_31 G N N 0 S1
    else
      mw_b2 (pf_X9_drain G N S (3 + y1)) fun v2 S2 =>
      pf_X9_rotate_2 G N n (y1 + 1) S2
def pf_X9_rotate (G : Nat → ClassId) (N : Nat) (S : mm_M) : Option (mm_M) :=
  pf_X9_rotate_2 G N N 0 S
def pf_X9_flush_22 (G : Nat → ClassId) (N : Nat) : Nat → Int32 → Int32 → mm_M → Option (Int32 × mm_M)
  | 0, _, _, _ => none
  | n + 1, y1, y2, S =>
    if (S.1 18) ≤ y2 then
      (mm_pf S 18 ((S.1 18) - 1)).bind fun S1 =>
      (mm_ai S1 11 6).bind fun v2 =>
      if v2 ≤ 150 then
        some (y1, S1)
      else
        (pf_X9_rotate G N S1).bind fun S3 =>
        some (y1, S3)
    else
      (pf_X9_move G N S (3 + y2) (2 + y2)).bind fun S4 =>
      pf_X9_flush_22 G N n y1 (y2 + 1) S4
def pf_X9_flush (G : Nat → ClassId) (N : Nat) (S : mm_M) : Option (Int32 × mm_M) :=
  (mm_pf S 4 0).bind fun S1 =>
  if ¬ (S1.1 18) = 0 then
    mw_b2 (pf_X9_drain G N S1 3) fun v2 S2 =>
    pf_X9_flush_22 G N N v2 1 S2
  else
    some (0, S1)
def pf_X9_digit (G : Nat → ClassId) (N : Nat) (S : mm_M) (x1 : Int32) (x2 : Int32) : Option (Int32 × mm_M) :=
  if x2 ≤ x1 then
    if vp_nar .boolean 0 = 0 then some (0, S) else none
  else
    (mm_ai S 0 x1).bind fun v1 =>
    if v1 < 48 then
      if vp_nar .boolean 0 = 0 then some (0, S) else none
    else
      (mm_ai S 0 x1).bind fun v2 =>
      if 57 < v2 then
        if vp_nar .boolean 0 = 0 then some (0, S) else none
      else
        if vp_nar .boolean 1 = 1 then some (1, S) else none
def pf_X9_itemEnd_64 (G : Nat → ClassId) (N : Nat) : Nat → Int32 → Int32 → Int32 → mm_M → Option (Int32 × mm_M)
  | 0, _, _, _, _ => none
  | n + 1, y1, y2, y3, S =>
    mw_b2 (pf_X9_digit G N S y3 y2) fun v1 S1 =>
    if v1 = 0 then
      if y3 ≤ (y1 + 5) then
        some (y3, S1)
      else
        some ((-1), S1)
    else
      pf_X9_itemEnd_64 G N n y1 y2 (y3 + 1) S1
def pf_X9_itemEnd (G : Nat → ClassId) (N : Nat) (S : mm_M) (x1 : Int32) (x2 : Int32) : Option (Int32 × mm_M) :=
  mw_b2 (pf_X9_digit G N S x1 x2) fun v1 S1 =>
  if v1 = 0 then
    some ((-1), S1)
  else
    (mm_ai S1 0 x1).bind fun v2 =>
    if (S1.1 7) ≤ (v2 - 48) then
      some ((-1), S1)
    else
      if x2 ≤ (x1 + 1) then
        some ((-1), S1)
      else
        (mm_ai S1 0 (x1 + 1)).bind fun v3 =>
        if v3 = 43 then
          pf_X9_itemEnd_64 G N N x1 x2 (x1 + 2) S1
        else
          (mm_ai S1 0 (x1 + 1)).bind fun v4 =>
          if v4 = 45 then
            pf_X9_itemEnd_64 G N N x1 x2 (x1 + 2) S1
          else
            some ((-1), S1)
def pf_X9_items_5 (G : Nat → ClassId) (N : Nat) : Nat → Int32 → Int32 → Int32 → mm_M → Option (Int32 × mm_M)
  | 0, _, _, _, _ => none
  | n + 1, y2, y3, y4, S =>
    if y2 < y4 then
      some (y3, S)
    else
      mw_b2 (pf_X9_itemEnd G N S y4 y2) fun v1 S1 =>
      if v1 < 0 then
        some ((-1), S1)
      else
        if y2 ≤ v1 then
          pf_X9_items_5 G N n y2 (y3 + 1) (v1 + 1) S1
        else
          (mm_ai S1 0 v1).bind fun v2 =>
          if v2 = 44 then
            pf_X9_items_5 G N n y2 (y3 + 1) (v1 + 1) S1
          else
            some ((-1), S1)
def pf_X9_items (G : Nat → ClassId) (N : Nat) (S : mm_M) (x1 : Int32) (x2 : Int32) : Option (Int32 × mm_M) :=
  pf_X9_items_5 G N N x2 0 x1 S
def pf_X9_set_138 (G : Nat → ClassId) (N : Nat) (k3 : Int32 → Int32 → Int32 → mm_M → Option (mm_M)) (y1 : Int32) (y3 : Int32) (y6 : Int32) (w1 : Int32) (w2 : Int32) (S : mm_M) : Option (mm_M) :=
  (mm_si S 20 w1 w2).bind fun S1 =>
  k3 y1 y3 (y6 + 1) S1
def pf_X9_set_70 (G : Nat → ClassId) (N : Nat) (k3 : Int32 → Int32 → Int32 → mm_M → Option (mm_M)) : Nat → Int32 → Int32 → Int32 → Int32 → Int32 → Int32 → Int32 → mm_M → Option (mm_M)
  | 0, _, _, _, _, _, _, _, _ => none
  | n + 1, y1, y3, y4, y5, y6, y7, y8, S =>
    if y6 ≤ y8 then
      if y6 ≤ (y4 + 2) then
        (mm_ai S 20 ((6 * y1) + y5)).bind fun v1 =>
        pf_X9_set_138 G N k3 y1 y3 y6 ((6 * y1) + y5) v1 S
      else
        pf_X9_set_138 G N k3 y1 y3 y6 ((6 * y1) + y5) y7 S
    else
      (mm_ai S 0 y8).bind fun v2 =>
      pf_X9_set_70 G N k3 n y1 y3 y4 y5 y6 (((10 * y7) + v2) - 48) (y8 + 1) S
def pf_X9_set_60 (G : Nat → ClassId) (N : Nat) (k3 : Int32 → Int32 → Int32 → mm_M → Option (mm_M)) (y1 : Int32) (y3 : Int32) (y4 : Int32) (y5 : Int32) (y6 : Int32) (w1 : Int32) (w2 : Int32) (S : mm_M) : Option (mm_M) :=
  (mm_si S 19 w1 (vp_nar .boolean w2)).bind fun S1 =>
  pf_X9_set_70 G N k3 N y1 y3 y4 y5 y6 0 (y4 + 2) S1
def pf_X9_set_3 (G : Nat → ClassId) (N : Nat) : Nat → Int32 → Int32 → Int32 → mm_M → Option (mm_M)
  | 0, _, _, _, _ => none
  | n + 1, y1, y3, y4, S =>
    if y3 ≤ y4 then
      some S
    else
      (mm_ai S 0 y4).bind fun v1 =>
      mw_b2 (pf_X9_itemEnd G N S y4 y3) fun v2 S2 =>
      (mm_ai S2 0 (y4 + 1)).bind fun v3 =>
      if ¬ v3 = 45 then
        pf_X9_set_60 G N (pf_X9_set_3 G N n) y1 y3 y4 (v1 - 48) v2 ((6 * y1) + (v1 - 48)) 0 S2
      else
        pf_X9_set_60 G N (pf_X9_set_3 G N n) y1 y3 y4 (v1 - 48) v2 ((6 * y1) + (v1 - 48)) 1 S2
def pf_X9_set (G : Nat → ClassId) (N : Nat) (S : mm_M) (x1 : Int32) (x2 : Int32) (x3 : Int32) : Option (mm_M) :=
  pf_X9_set_3 G N N x1 x3 x2 S
def pf_X9_record_14 (G : Nat → ClassId) (N : Nat) (w1 : Int32) (S : mm_M) : Option (Int32 × mm_M) :=
  (mm_pf S 4 w1).bind fun S1 =>
  if (S1.1 4) ≤ 0 then
    (mm_pf S1 29 ((S1.1 29) + 1)).bind fun S2 =>
    some (((S2.1 29) - 1), S2)
  else
    some (0, S1)
def pf_X9_record (G : Nat → ClassId) (N : Nat) (S : mm_M) : Option (Int32 × mm_M) :=
  if ¬ (S.1 29) = 4 then
    pf_X9_record_14 G N 0 S
  else
    pf_X9_record_14 G N 1 S
def pf_X9_settings_49 (G : Nat → ClassId) (N : Nat) (y1 : Int32) (y2 : Int32) (y3 : Int32) (w1 : Int32) (S : mm_M) : Option (Int32 × mm_M) :=
  (mm_pf S 4 w1).bind fun S1 =>
  if (S1.1 4) ≤ 0 then
    (pf_X9_set G N S1 y1 0 y2).bind fun S2 =>
    some (y3, S2)
  else
    some (0, S1)
def pf_X9_settings_30 (G : Nat → ClassId) (N : Nat) (y1 : Int32) (y2 : Int32) (y3 : Int32) (S : mm_M) : Option (Int32 × mm_M) :=
  pf_X9_settings_49 G N y1 y2 y3 1 S
def pf_X9_settings (G : Nat → ClassId) (N : Nat) (S : mm_M) (x1 : Int32) : Option (Int32 × mm_M) :=
  (mm_pf S 5 0).bind fun S1 =>
  mw_b2 (pf_X9_items G N S1 0 (S.1 5)) fun v2 S2 =>
  mw_b2 (pf_X9_isRecording G N S2 x1) fun v3 S3 =>
  if v3 = 0 then
    pf_X9_settings_30 G N x1 (S.1 5) v2 S3
  else
    if 0 ≤ v2 then
      (mm_ai S3 18 x1).bind fun v4 =>
      if ¬ v4 = 3 then
        pf_X9_settings_49 G N x1 (S.1 5) v2 0 S3
      else
        pf_X9_settings_49 G N x1 (S.1 5) v2 2 S3
    else
      pf_X9_settings_30 G N x1 (S.1 5) v2 S3
def pf_X9_profile_203 (G : Nat → ClassId) (N : Nat) (k22 : Int32 → Int32 → Int32 → Int32 → mm_M → Option (Int32 × mm_M)) (y1 : Int32) (y2 : Int32) (y5 : Int32) (w0 : Int32) (S : mm_M) : Option (Int32 × mm_M) :=
  k22 y1 y2 w0 (y5 + 1) S
def pf_X9_profile_190 (G : Nat → ClassId) (N : Nat) (k22 : Int32 → Int32 → Int32 → Int32 → mm_M → Option (Int32 × mm_M)) (y1 : Int32) (y3 : Int32) (y5 : Int32) (y7 : Int32) (w0 : Int32) (S : mm_M) : Option (Int32 × mm_M) :=
  if y7 = 0 then
    pf_X9_profile_203 G N k22 y1 w0 y5 (y3 + 1) S
  else
    pf_X9_profile_203 G N k22 y1 w0 y5 y3 S
def pf_X9_profile_178 (G : Nat → ClassId) (N : Nat) (k22 : Int32 → Int32 → Int32 → Int32 → mm_M → Option (Int32 × mm_M)) (y1 : Int32) (y2 : Int32) (y3 : Int32) (y5 : Int32) (y7 : Int32) (S : mm_M) : Option (Int32 × mm_M) :=
  if y7 = 0 then
    pf_X9_profile_190 G N k22 y1 y3 y5 y7 y2 S
  else
    pf_X9_profile_190 G N k22 y1 y3 y5 y7 (y2 + 1) S
def pf_X9_profile_159 (G : Nat → ClassId) (N : Nat) (k22 : Int32 → Int32 → Int32 → Int32 → mm_M → Option (Int32 × mm_M)) (y1 : Int32) (y2 : Int32) (y3 : Int32) (y4 : Int32) (y5 : Int32) (y6 : Int32) (w0 : Int32) (S : mm_M) : Option (Int32 × mm_M) :=
  if w0 = 0 then
    pf_X9_profile_178 G N k22 y1 y2 y3 y5 w0 S
  else
    (pf_X9_set G N S y6 (y4 + 2) y5).bind fun S1 =>
    pf_X9_profile_178 G N k22 y1 y2 y3 y5 w0 S1
def pf_X9_profile_158 (G : Nat → ClassId) (N : Nat) (k22 : Int32 → Int32 → Int32 → Int32 → mm_M → Option (Int32 × mm_M)) (y1 : Int32) (y2 : Int32) (y3 : Int32) (y4 : Int32) (y5 : Int32) (y6 : Int32) (S : mm_M) : Option (Int32 × mm_M) :=
  pf_X9_profile_159 G N k22 y1 y2 y3 y4 y5 y6 0 S
def pf_X9_profile_113 (G : Nat → ClassId) (N : Nat) (k22 : Int32 → Int32 → Int32 → Int32 → mm_M → Option (Int32 × mm_M)) (y1 : Int32) (y2 : Int32) (y3 : Int32) (y4 : Int32) (y5 : Int32) (y6 : Int32) (w1 : Int32) (S : mm_M) : Option (Int32 × mm_M) :=
  (mm_ai S 18 w1).bind fun v1 =>
  if v1 = 3 then
    pf_X9_profile_158 G N k22 y1 y2 y3 y4 y5 y6 S
  else
    if y5 ≤ (y4 + 1) then
      pf_X9_profile_158 G N k22 y1 y2 y3 y4 y5 y6 S
    else
      (mm_ai S 0 (y4 + 1)).bind fun v2 =>
      if ¬ v2 = 58 then
        pf_X9_profile_158 G N k22 y1 y2 y3 y4 y5 y6 S
      else
        mw_b2 (pf_X9_items G N S (y4 + 2) y5) fun v3 S3 =>
        if v3 ≤ 0 then
          pf_X9_profile_158 G N k22 y1 y2 y3 y4 y5 y6 S3
        else
          pf_X9_profile_159 G N k22 y1 y2 y3 y4 y5 y6 1 S3
def pf_X9_profile_107 (G : Nat → ClassId) (N : Nat) (k22 : Int32 → Int32 → Int32 → Int32 → mm_M → Option (Int32 × mm_M)) (y1 : Int32) (y2 : Int32) (y3 : Int32) (y4 : Int32) (y5 : Int32) (y6 : Int32) (S : mm_M) : Option (Int32 × mm_M) :=
  pf_X9_profile_113 G N k22 y1 y2 y3 y4 y5 y6 0 S
def pf_X9_profile_81 (G : Nat → ClassId) (N : Nat) (k22 : Int32 → Int32 → Int32 → Int32 → mm_M → Option (Int32 × mm_M)) (y1 : Int32) (y2 : Int32) (y3 : Int32) (y4 : Int32) (y5 : Int32) (w0 : Int32) (S : mm_M) : Option (Int32 × mm_M) :=
  mw_b2 (pf_X9_isRecording G N S w0) fun v1 S1 =>
  if v1 = 0 then
    pf_X9_profile_158 G N k22 y1 y2 y3 y4 y5 w0 S1
  else
    if w0 < 0 then
      pf_X9_profile_107 G N k22 y1 y2 y3 y4 y5 w0 S1
    else
      if w0 ≤ 3 then
        pf_X9_profile_113 G N k22 y1 y2 y3 y4 y5 w0 w0 S1
      else
        pf_X9_profile_107 G N k22 y1 y2 y3 y4 y5 w0 S1
def pf_X9_profile_56 (G : Nat → ClassId) (N : Nat) (k22 : Int32 → Int32 → Int32 → Int32 → mm_M → Option (Int32 × mm_M)) (y1 : Int32) (y2 : Int32) (y3 : Int32) (y4 : Int32) (y5 : Int32) (S : mm_M) : Option (Int32 × mm_M) :=
  mw_b2 (pf_X9_digit G N S y4 y5) fun v1 S1 =>
  if v1 = 0 then
    pf_X9_profile_81 G N k22 y1 y2 y3 y4 y5 (-1) S1
  else
    (mm_ai S1 0 y4).bind fun v2 =>
    pf_X9_profile_81 G N k22 y1 y2 y3 y4 y5 (v2 - 48) S1
def pf_X9_profile_32 (G : Nat → ClassId) (N : Nat) (k22 : Int32 → Int32 → Int32 → Int32 → mm_M → Option (Int32 × mm_M)) : Nat → Int32 → Int32 → Int32 → Int32 → Int32 → mm_M → Option (Int32 × mm_M)
  | 0, _, _, _, _, _, _ => none
  | n + 1, y1, y2, y3, y4, y5, S =>
    if y1 ≤ y5 then
      pf_X9_profile_56 G N k22 y1 y2 y3 y4 y5 S
    else
      (mm_ai S 0 y5).bind fun v1 =>
      if v1 = 124 then
        pf_X9_profile_56 G N k22 y1 y2 y3 y4 y5 S
      else
        pf_X9_profile_32 G N k22 n y1 y2 y3 y4 (y5 + 1) S
def pf_X9_profile_22 (G : Nat → ClassId) (N : Nat) : Nat → Int32 → Int32 → Int32 → Int32 → mm_M → Option (Int32 × mm_M)
  | 0, _, _, _, _, _ => none
  | n + 1, y1, y2, y3, y4, S =>
    if y1 < y4 then
      some (((10 * y2) + y3), S)
    else
      pf_X9_profile_32 G N (pf_X9_profile_22 G N n) N y1 y2 y3 y4 y4 S
def pf_X9_profile (G : Nat → ClassId) (N : Nat) (S : mm_M) : Option (Int32 × mm_M) :=
  (mm_pf S 4 0).bind fun S1 =>
  (mm_pf S1 5 0).bind fun S2 =>
  pf_X9_profile_22 G N N (S1.1 5) 0 0 0 S2
def pf_X9_start_27 (G : Nat → ClassId) (N : Nat) (y1 : Int32) (w1 : Int32) (S : mm_M) : Option (Int32 × mm_M) :=
  (mm_pf S 4 w1).bind fun S1 =>
  if (S1.1 4) ≤ 0 then
    (pf_X9_rotate G N S1).bind fun S2 =>
    (mm_si S2 18 y1 1).bind fun S3 =>
    (mm_ai S3 12 6).bind fun v4 =>
    (mm_si S3 21 y1 v4).bind fun S5 =>
    (mm_ai S5 12 6).bind fun v6 =>
    some (v6, S5)
  else
    some (0, S1)
def pf_X9_start (G : Nat → ClassId) (N : Nat) (S : mm_M) (x1 : Int32) : Option (Int32 × mm_M) :=
  mw_b2 (pf_X9_isRecording G N S x1) fun v1 S1 =>
  if ¬ v1 = 0 then
    (mm_ai S1 18 x1).bind fun v2 =>
    if v2 = 0 then
      pf_X9_start_27 G N x1 0 S1
    else
      pf_X9_start_27 G N x1 2 S1
  else
    pf_X9_start_27 G N x1 1 S1
def pf_X9_end (G : Nat → ClassId) (N : Nat) (S : mm_M) (x1 : Int32) : Option (Int32 × mm_M) :=
  (mm_ai S 12 6).bind fun v1 =>
  (mm_si S 22 x1 v1).bind fun S2 =>
  (pf_X9_rotate G N S2).bind fun S3 =>
  (mm_si S3 18 x1 2).bind fun S4 =>
  (mm_ai S4 22 x1).bind fun v5 =>
  some (v5, S4)
def pf_X9_stop_28 (G : Nat → ClassId) (N : Nat) (y1 : Int32) (w1 : Int32) (S : mm_M) : Option (Int32 × mm_M) :=
  (mm_pf S 4 w1).bind fun S1 =>
  if (S1.1 4) ≤ 0 then
    mw_b2 (pf_X9_end G N S1 y1) fun v2 S2 =>
    some (v2, S2)
  else
    some (0, S1)
def pf_X9_stop (G : Nat → ClassId) (N : Nat) (S : mm_M) (x1 : Int32) : Option (Int32 × mm_M) :=
  mw_b2 (pf_X9_isRecording G N S x1) fun v1 S1 =>
  if ¬ v1 = 0 then
    (mm_ai S1 18 x1).bind fun v2 =>
    if v2 = 1 then
      pf_X9_stop_28 G N x1 0 S1
    else
      pf_X9_stop_28 G N x1 2 S1
  else
    pf_X9_stop_28 G N x1 1 S1
def pf_X9_close_66 (G : Nat → ClassId) (N : Nat) (y1 : Int32) (y2 : Int32) (S : mm_M) : Option (Int32 × mm_M) :=
  (mm_si S 18 y1 3).bind fun S1 =>
  if vp_nar .boolean y2 = y2 then some (y2, S1) else none
def pf_X9_close_55 (G : Nat → ClassId) (N : Nat) (y1 : Int32) (w0 : Int32) (S : mm_M) : Option (Int32 × mm_M) :=
  if w0 = 0 then
    pf_X9_close_66 G N y1 w0 S
  else
    mw_b2 (pf_X9_end G N S y1) fun v1 S1 =>
    pf_X9_close_66 G N y1 w0 S1
def pf_X9_close_28 (G : Nat → ClassId) (N : Nat) (y1 : Int32) (w1 : Int32) (S : mm_M) : Option (Int32 × mm_M) :=
  (mm_pf S 4 w1).bind fun S1 =>
  if (S1.1 4) ≤ 0 then
    (mm_ai S1 18 y1).bind fun v2 =>
    if ¬ v2 = 1 then
      pf_X9_close_55 G N y1 0 S1
    else
      pf_X9_close_55 G N y1 1 S1
  else
    if vp_nar .boolean 0 = 0 then some (0, S1) else none
def pf_X9_close (G : Nat → ClassId) (N : Nat) (S : mm_M) (x1 : Int32) : Option (Int32 × mm_M) :=
  mw_b2 (pf_X9_isRecording G N S x1) fun v1 S1 =>
  if ¬ v1 = 0 then
    (mm_ai S1 18 x1).bind fun v2 =>
    if ¬ v2 = 3 then
      pf_X9_close_28 G N x1 0 S1
    else
      pf_X9_close_28 G N x1 2 S1
  else
    pf_X9_close_28 G N x1 1 S1
def pf_X9_out (G : Nat → ClassId) (N : Nat) (S : mm_M) (x1 : Int32) : Option (mm_M) :=
  (mm_si S 23 (S.1 36) x1).bind fun S1 =>
  (mm_pf S1 36 ((S1.1 36) + 1)).bind fun S2 =>
  some S2
def pf_X9_outVariable_12 (G : Nat → ClassId) (N : Nat) : Nat → Int32 → mm_M → Option (mm_M)
  | 0, _, _ => none
  | n + 1, y2, S =>
    if (S.1 38) ≤ y2 then
      some S
    else
      (mm_ai S 24 y2).bind fun v1 =>
      (pf_X9_out G N S v1).bind fun S2 =>
      pf_X9_outVariable_12 G N n (y2 + 1) S2
def pf_X9_outVariable (G : Nat → ClassId) (N : Nat) (S : mm_M) (x1 : Int32) : Option (mm_M) :=
  (mm_pf S 38 0).bind fun S1 =>
  (pf_X9_variable G N S1 x1).bind fun S2 =>
  pf_X9_outVariable_12 G N N 0 S2
def pf_X9_writeOut_149 (G : Nat → ClassId) (N : Nat) (k111 : Int32 → Int32 → mm_M → Option (mm_M)) : Nat → Int32 → Int32 → Int32 → mm_M → Option (mm_M)
  | 0, _, _, _, _ => none
  | n + 1, y1, y3, y4, S =>
    (mm_ai S 4 y3).bind fun v1 =>
    if v1 ≤ y4 then
      k111 y1 (y3 + 1) S
    else
      (mm_ai S 3 ((8 * y3) + y4)).bind fun v2 =>
      (pf_X9_out G N S v2).bind fun S3 =>
      pf_X9_writeOut_149 G N k111 n y1 y3 (y4 + 1) S3
def pf_X9_writeOut_111 (G : Nat → ClassId) (N : Nat) : Nat → Int32 → Int32 → mm_M → Option (mm_M)
  | 0, _, _, _ => none
  | n + 1, y1, y3, S =>
    if 24 ≤ y3 then
      some S
    else
      (mm_ai S 15 y1).bind fun v1 =>
      if ¬ ((v1 >>> (y3 &&& 31)) &&& 1) = 1 then
        pf_X9_writeOut_111 G N n y1 (y3 + 1) S
      else
        (pf_X9_outVariable G N S y3).bind fun S2 =>
        (mm_ai S2 4 y3).bind fun v3 =>
        (pf_X9_outVariable G N S2 v3).bind fun S4 =>
        pf_X9_writeOut_149 G N (pf_X9_writeOut_111 G N n) N y1 y3 0 S4
def pf_X9_writeOut_79 (G : Nat → ClassId) (N : Nat) : Nat → Int32 → Int32 → Int32 → mm_M → Option (mm_M)
  | 0, _, _, _, _ => none
  | n + 1, y1, y2, y3, S =>
    if 24 ≤ y3 then
      (pf_X9_outVariable G N S y2).bind fun S1 =>
      pf_X9_writeOut_111 G N N y1 0 S1
    else
      (mm_ai S 15 y1).bind fun v2 =>
      pf_X9_writeOut_79 G N n y1 (y2 + ((v2 >>> (y3 &&& 31)) &&& 1)) (y3 + 1) S
def pf_X9_writeOut_38 (G : Nat → ClassId) (N : Nat) : Nat → Int32 → Int32 → mm_M → Option (mm_M)
  | 0, _, _, _ => none
  | n + 1, y1, y2, S =>
    (mm_ai S 11 y1).bind fun v1 =>
    if v1 ≤ y2 then
      (pf_X9_out G N S 0).bind fun S2 =>
      pf_X9_writeOut_79 G N N y1 0 0 S2
    else
      (mm_ai S 10 ((600 * y1) + y2)).bind fun v3 =>
      (pf_X9_out G N S v3).bind fun S4 =>
      pf_X9_writeOut_38 G N n y1 (y2 + 1) S4
def pf_X9_writeOut (G : Nat → ClassId) (N : Nat) (S : mm_M) (x1 : Int32) : Option (mm_M) :=
  (pf_X9_out G N S 70).bind fun S1 =>
  (mm_ai S1 12 x1).bind fun v2 =>
  (pf_X9_outVariable G N S1 v2).bind fun S3 =>
  (mm_ai S3 13 x1).bind fun v4 =>
  (pf_X9_outVariable G N S3 v4).bind fun S5 =>
  (mm_ai S5 14 x1).bind fun v6 =>
  (pf_X9_outVariable G N S5 v6).bind fun S7 =>
  pf_X9_writeOut_38 G N N x1 0 S7
def pf_X9_dump_118 (G : Nat → ClassId) (N : Nat) (k70 : Int32 → Int32 → mm_M → Option (Int32 × mm_M)) (y1 : Int32) (y2 : Int32) (S : mm_M) : Option (Int32 × mm_M) :=
  (pf_X9_writeOut G N S y2).bind fun S1 =>
  k70 y1 (y2 + 1) S1
def pf_X9_dump_70 (G : Nat → ClassId) (N : Nat) : Nat → Int32 → Int32 → mm_M → Option (Int32 × mm_M)
  | 0, _, _, _ => none
  | n + 1, y1, y2, S =>
    if (S.1 19) ≤ y2 then
      some ((S.1 36), S)
    else
      (mm_ai S 12 y2).bind fun v1 =>
      (mm_ai S 21 y1).bind fun v2 =>
      if v1 < v2 then
        pf_X9_dump_70 G N n y1 (y2 + 1) S
      else
        (mm_ai S 18 y1).bind fun v3 =>
        if v3 = 1 then
          pf_X9_dump_118 G N (pf_X9_dump_70 G N n) y1 y2 S
        else
          (mm_ai S 12 y2).bind fun v4 =>
          (mm_ai S 22 y1).bind fun v5 =>
          if v5 < v4 then
            pf_X9_dump_70 G N n y1 (y2 + 1) S
          else
            pf_X9_dump_118 G N (pf_X9_dump_70 G N n) y1 y2 S
def pf_X9_dump_37 (G : Nat → ClassId) (N : Nat) (y1 : Int32) (w1 : Int32) (S : mm_M) : Option (Int32 × mm_M) :=
  (mm_pf S 4 w1).bind fun S1 =>
  if (S1.1 4) ≤ 0 then
    (mm_ai S1 18 y1).bind fun v2 =>
    if ¬ v2 = 1 then
      (mm_pf S1 36 0).bind fun S3 =>
      pf_X9_dump_70 G N N y1 0 S3
    else
      (pf_X9_rotate G N S1).bind fun S4 =>
      (mm_pf S4 36 0).bind fun S5 =>
      pf_X9_dump_70 G N N y1 0 S5
  else
    some (0, S1)
def pf_X9_dump_32 (G : Nat → ClassId) (N : Nat) (y1 : Int32) (S : mm_M) : Option (Int32 × mm_M) :=
  pf_X9_dump_37 G N y1 2 S
def pf_X9_dump (G : Nat → ClassId) (N : Nat) (S : mm_M) (x1 : Int32) : Option (Int32 × mm_M) :=
  mw_b2 (pf_X9_isRecording G N S x1) fun v1 S1 =>
  if ¬ v1 = 0 then
    (mm_ai S1 18 x1).bind fun v2 =>
    if v2 = 0 then
      pf_X9_dump_32 G N x1 S1
    else
      (mm_ai S1 18 x1).bind fun v3 =>
      if ¬ v3 = 3 then
        pf_X9_dump_37 G N x1 0 S1
      else
        pf_X9_dump_32 G N x1 S1
  else
    pf_X9_dump_37 G N x1 1 S1
def pf_X9_output (G : Nat → ClassId) (N : Nat) (S : mm_M) (x1 : Int32) : Option (Int32 × mm_M) :=
  (mm_pf S 4 0).bind fun S1 =>
  if x1 < 0 then
    some ((-1), S1)
  else
    if (S1.1 36) ≤ x1 then
      some ((-1), S1)
    else
      (mm_ai S1 23 x1).bind fun v2 =>
      some (v2, S1)
def pf_X9_state (G : Nat → ClassId) (N : Nat) (S : mm_M) (x1 : Int32) : Option (Int32 × mm_M) :=
  (mm_pf S 4 0).bind fun S1 =>
  mw_b2 (pf_X9_isRecording G N S1 x1) fun v2 S2 =>
  if v2 = 0 then
    some ((-1), S2)
  else
    (mm_ai S2 18 x1).bind fun v3 =>
    some (v3, S2)
def pf_X9_threshold (G : Nat → ClassId) (N : Nat) (S : mm_M) (x1 : Int32) (x2 : Int32) : Option (Int32 × mm_M) :=
  (mm_pf S 4 0).bind fun S1 =>
  mw_b2 (pf_X9_isRecording G N S1 x1) fun v2 S2 =>
  if v2 = 0 then
    some ((-1), S2)
  else
    if x2 < 0 then
      some ((-1), S2)
    else
      if (S2.1 7) ≤ x2 then
        some ((-1), S2)
      else
        (mm_ai S2 19 ((6 * x1) + x2)).bind fun v3 =>
        if ¬ v3 = 0 then
          some ((-1), S2)
        else
          (mm_ai S2 20 ((6 * x1) + x2)).bind fun v4 =>
          some (v4, S2)
def pf_X9_buffered (G : Nat → ClassId) (N : Nat) (S : mm_M) (x1 : Int32) : Option (Int32 × mm_M) :=
  (mm_pf S 4 0).bind fun S1 =>
  mw_b2 (pf_X9_isThread G N S1 x1) fun v2 S2 =>
  if v2 = 0 then
    some ((-1), S2)
  else
    (mm_ai S2 8 x1).bind fun v3 =>
    some (v3, S2)
def pf_X9_count (G : Nat → ClassId) (N : Nat) (S : mm_M) (x1 : Int32) : Option (Int32 × mm_M) :=
  (mm_pf S 4 0).bind fun S1 =>
  if 3 ≤ x1 then
    if ¬ x1 = 3 then
      if ¬ x1 = 4 then
        if ¬ x1 = 5 then
          some ((-1), S1)
        else
          some ((S1.1 10), S1)
      else
        some ((S1.1 20), S1)
    else
      some ((S1.1 19), S1)
  else
    if ¬ x1 = 0 then
      if ¬ x1 = 1 then
        if ¬ x1 = 2 then
          some ((-1), S1)
        else
          (mm_ai S1 11 6).bind fun v2 =>
          some (v2, S1)
      else
        (mm_ai S1 12 6).bind fun v3 =>
        some (v3, S1)
    else
      some ((S1.1 18), S1)
def pf_X9_lost (G : Nat → ClassId) (N : Nat) (S : mm_M) (x1 : Int32) : Option (Int32 × mm_M) :=
  (mm_pf S 4 0).bind fun S1 =>
  mw_b2 (pf_X9_isThread G N S1 x1) fun v2 S2 =>
  if v2 = 0 then
    some ((-1), S2)
  else
    (mm_ai S2 17 x1).bind fun v3 =>
    some (v3, S2)
