def Ta_cell (N : Nat) (v0 : Nat) (v1 : Int32) (v2 : Int32) (σ : St) : Option Int32 :=
  ck (inB ((v1 * (σ.1 v0 0)) + v2) (lnn (v0 + 1))) <|
  some (σ.1 (v0 + 1) (((v1 * (σ.1 v0 0)) + v2)).toNatClampNeg)
def Ro_toldBy_J20  (v0 : Int32) (v3 : Int32) (v4 : Int32) (v5 : Int32) (w0 : Int32) : Int32 :=
  if v0 = 1 then
    v5
  else
    if v0 = 2 then
      w0
    else
      if v0 = 3 then
        (w0 + (v3 / 6))
      else
        if v0 = 4 then
          if 10 ≤ v3 then
            (w0 + (v3 / 6))
          else
            0
        else
          if v0 = 5 then
            if (v3 - v3 / 2 * 2) = 0 then
              v5
            else
              (mxI 0 (v5 - 2))
          else
            v4
def Ro_toldBy  (v0 : Int32) (v1 : Int32) (v2 : Int32) (v3 : Int32) : Int32 :=
  if 4 ≤ v2 then
    Ro_toldBy_J20 v0 v3 v1 (v1 + 3) v1
  else
    Ro_toldBy_J20 v0 v3 v1 (v1 + 3) 0
def Gs_tongueFits_J77 (N : Nat) (K20 : Int32 → Int32 → Nat → Int32 → Int32 → St → Option Int32) (v2 : Int32) (v3 : Int32) (v4 : Nat) (v5 : Int32) (v6 : Int32) (σ : St) : Option Int32 :=
  bI (v6 + 1) fun x8 =>
  K20 v2 v3 v4 v5 x8 σ
def Gs_tongueFits_L20B (N : Nat) (K20 : Int32 → Int32 → Nat → Int32 → Int32 → St → Option Int32) (v2 : Int32) (v3 : Int32) (v4 : Nat) (v5 : Int32) (v6 : Int32) (σ : St) : Option Int32 :=
  if (σ.1 v4 3) ≤ v6 then
    some 1
  else
    bR (Ta_cell N v4 v6 0 σ) fun r4 =>
    if r4 = v2 then
      bR (Ta_cell N v4 v6 1 σ) fun r9 =>
      bR (Ta_cell N v4 v6 2 σ) fun r12 =>
      bR (Ta_cell N v4 v6 3 σ) fun r18 =>
      if (Ro_toldBy v5 v3 r9 r12) = r18 then
        Gs_tongueFits_J77 N K20 v2 v3 v4 v5 v6 σ
      else
        some 0
    else
      Gs_tongueFits_J77 N K20 v2 v3 v4 v5 v6 σ
def Gs_tongueFits_L20 (N : Nat) : Nat → Int32 → Int32 → Nat → Int32 → Int32 → St → Option Int32
  | 0 => fun _ _ _ _ _ _ => none
  | n + 1 => fun v2 v3 v4 v5 v6 σ => Gs_tongueFits_L20B N (Gs_tongueFits_L20 N n) v2 v3 v4 v5 v6 σ
def Gs_tongueFits (N : Nat) (v1 : Nat) (v2 : Int32) (v3 : Int32) (σ : St) : Option Int32 :=
  ck (inB v2 3) <|
  bI ((σ.1 (v1 + 13 + (v2).toNatClampNeg) 0)) fun x2 =>
  Gs_tongueFits_L20 N N v2 v3 (v1 + 5) x2 0 σ
def Gs_tonguesLeft_J30 (N : Nat) (K5 : Nat → Int32 → Int32 → Int32 → St → Option Int32) (v1 : Nat) (v2 : Int32) (v3 : Int32) (v4 : Int32) (σ : St) : Option Int32 :=
  bI (v4 + 1) fun x6 =>
  K5 v1 v2 v3 x6 σ
def Gs_tonguesLeft_L5B (N : Nat) (K5 : Nat → Int32 → Int32 → Int32 → St → Option Int32) (v1 : Nat) (v2 : Int32) (v3 : Int32) (v4 : Int32) (σ : St) : Option Int32 :=
  if 10 ≤ v4 then
    some v3
  else
    bR (Gs_tongueFits N v1 v2 v4 σ) fun r2 =>
    if r2 = 0 then
      Gs_tonguesLeft_J30 N K5 v1 v2 v3 v4 σ
    else
      bI ((v3 ||| (1 <<< (v4 &&& 31)))) fun x7 =>
      Gs_tonguesLeft_J30 N K5 v1 v2 x7 v4 σ
def Gs_tonguesLeft_L5 (N : Nat) : Nat → Nat → Int32 → Int32 → Int32 → St → Option Int32
  | 0 => fun _ _ _ _ _ => none
  | n + 1 => fun v1 v2 v3 v4 σ => Gs_tonguesLeft_L5B N (Gs_tonguesLeft_L5 N n) v1 v2 v3 v4 σ
def Gs_tonguesLeft (N : Nat) (v1 : Nat) (v2 : Int32) (σ : St) : Option Int32 :=
  Gs_tonguesLeft_L5 N N v1 v2 0 0 σ
def Gu_hurtOf_J52  (v0 : Int32) (v3 : Int32) (v5 : Int32) (v6 : Int32) (v7 : Int32) (w0 : Int32) : Int32 :=
  if v0 = 1 then
    v6
  else
    if v0 = 2 then
      v7
    else
      if v0 = 3 then
        w0
      else
        if v0 = 4 then
          if 3 ≤ v3 then
            w0
          else
            0
        else
          if v0 = 5 then
            (mnI 9 v7)
          else
            v5
def Gu_hurtOf_J37  (v0 : Int32) (v3 : Int32) (v5 : Int32) (v6 : Int32) (w0 : Int32) : Int32 :=
  if v3 = 0 then
    Gu_hurtOf_J52 v0 v3 v5 v6 w0 v6
  else
    Gu_hurtOf_J52 v0 v3 v5 v6 w0 (v6 + 3)
def Gu_hurtOf_J18  (v0 : Int32) (v1 : Int32) (v2 : Int32) (v3 : Int32) (v5 : Int32) (w0 : Int32) : Int32 :=
  if v3 = 0 then
    Gu_hurtOf_J37 v0 v3 v5 w0 v5
  else
    Gu_hurtOf_J37 v0 v3 v5 w0 (v5 + ((v1 - v2) / 4))
def Gu_hurtOf  (v0 : Int32) (v1 : Int32) (v2 : Int32) (v3 : Int32) (v4 : Int32) : Int32 :=
  if 5 ≤ v4 then
    Gu_hurtOf_J18 v0 v1 v2 v3 v3 v3
  else
    Gu_hurtOf_J18 v0 v1 v2 v3 v3 (2 * v3)
def Gs_guestKindFits_J74 (N : Nat) (K3 : Nat → Int32 → Int32 → Int32 → St → Option Int32) (v1 : Nat) (v2 : Int32) (v3 : Int32) (v4 : Int32) (σ : St) : Option Int32 :=
  bI (v4 + 1) fun x26 =>
  K3 v1 v2 v3 x26 σ
def Gs_guestKindFits_L3B (N : Nat) (K3 : Nat → Int32 → Int32 → Int32 → St → Option Int32) (v1 : Nat) (v2 : Int32) (v3 : Int32) (v4 : Int32) (σ : St) : Option Int32 :=
  if (σ.1 v1 3) ≤ v4 then
    some 1
  else
    bR (Ta_cell N v1 v4 0 σ) fun r2 =>
    if r2 = v2 then
      bR (Ta_cell N v1 v4 1 σ) fun r6 =>
      bR (Ta_cell N v1 v4 2 σ) fun r9 =>
      bR (Ta_cell N v1 v4 3 σ) fun r12 =>
      bR (Ta_cell N v1 v4 4 σ) fun r15 =>
      bI ((Gu_hurtOf v3 r6 r9 r12 r15)) fun x21 =>
      bR (Ta_cell N v1 v4 5 σ) fun r22 =>
      if x21 = r22 then
        Gs_guestKindFits_J74 N K3 v1 v2 v3 v4 σ
      else
        some 0
    else
      Gs_guestKindFits_J74 N K3 v1 v2 v3 v4 σ
def Gs_guestKindFits_L3 (N : Nat) : Nat → Nat → Int32 → Int32 → Int32 → St → Option Int32
  | 0 => fun _ _ _ _ _ => none
  | n + 1 => fun v1 v2 v3 v4 σ => Gs_guestKindFits_L3B N (Gs_guestKindFits_L3 N n) v1 v2 v3 v4 σ
def Gs_guestKindFits (N : Nat) (v1 : Nat) (v2 : Int32) (v3 : Int32) (σ : St) : Option Int32 :=
  Gs_guestKindFits_L3 N N v1 v2 v3 0 σ
def Gs_guestKindsLeft_J33 (N : Nat) (K5 : Nat → Int32 → Int32 → Int32 → St → Option Int32) (v1 : Nat) (v2 : Int32) (v3 : Int32) (v4 : Int32) (σ : St) : Option Int32 :=
  bI (v4 + 1) fun x6 =>
  K5 v1 v2 v3 x6 σ
def Gs_guestKindsLeft_L5B (N : Nat) (K5 : Nat → Int32 → Int32 → Int32 → St → Option Int32) (v1 : Nat) (v2 : Int32) (v3 : Int32) (v4 : Int32) (σ : St) : Option Int32 :=
  if 6 ≤ v4 then
    some v3
  else
    bR (Gs_guestKindFits N (v1 + 7) v2 v4 σ) fun r2 =>
    if r2 = 0 then
      Gs_guestKindsLeft_J33 N K5 v1 v2 v3 v4 σ
    else
      bI ((v3 ||| (1 <<< (v4 &&& 31)))) fun x7 =>
      Gs_guestKindsLeft_J33 N K5 v1 v2 x7 v4 σ
def Gs_guestKindsLeft_L5 (N : Nat) : Nat → Nat → Int32 → Int32 → Int32 → St → Option Int32
  | 0 => fun _ _ _ _ _ => none
  | n + 1 => fun v1 v2 v3 v4 σ => Gs_guestKindsLeft_L5B N (Gs_guestKindsLeft_L5 N n) v1 v2 v3 v4 σ
def Gs_guestKindsLeft (N : Nat) (v1 : Nat) (v2 : Int32) (σ : St) : Option Int32 :=
  Gs_guestKindsLeft_L5 N N v1 v2 0 0 σ
def Gs_rowerKindFits_J67 (N : Nat) (K3 : Nat → Int32 → Int32 → Int32 → St → Option Int32) (v1 : Nat) (v2 : Int32) (v3 : Int32) (v4 : Int32) (σ : St) : Option Int32 :=
  bI (v4 + 1) fun x23 =>
  K3 v1 v2 v3 x23 σ
def Gs_rowerKindFits_L3B (N : Nat) (K3 : Nat → Int32 → Int32 → Int32 → St → Option Int32) (v1 : Nat) (v2 : Int32) (v3 : Int32) (v4 : Int32) (σ : St) : Option Int32 :=
  if (σ.1 v1 3) ≤ v4 then
    some 1
  else
    bR (Ta_cell N v1 v4 0 σ) fun r2 =>
    if r2 = v2 then
      bR (Ta_cell N v1 v4 1 σ) fun r6 =>
      bR (Ta_cell N v1 v4 2 σ) fun r9 =>
      bR (Ta_cell N v1 v4 3 σ) fun r12 =>
      bI ((Ro_toldBy v3 r6 r9 r12)) fun x18 =>
      bR (Ta_cell N v1 v4 4 σ) fun r19 =>
      if x18 = r19 then
        Gs_rowerKindFits_J67 N K3 v1 v2 v3 v4 σ
      else
        some 0
    else
      Gs_rowerKindFits_J67 N K3 v1 v2 v3 v4 σ
def Gs_rowerKindFits_L3 (N : Nat) : Nat → Nat → Int32 → Int32 → Int32 → St → Option Int32
  | 0 => fun _ _ _ _ _ => none
  | n + 1 => fun v1 v2 v3 v4 σ => Gs_rowerKindFits_L3B N (Gs_rowerKindFits_L3 N n) v1 v2 v3 v4 σ
def Gs_rowerKindFits (N : Nat) (v1 : Nat) (v2 : Int32) (v3 : Int32) (σ : St) : Option Int32 :=
  Gs_rowerKindFits_L3 N N v1 v2 v3 0 σ
def Gs_rowerKindsLeft_J33 (N : Nat) (K5 : Nat → Int32 → Int32 → Int32 → St → Option Int32) (v1 : Nat) (v2 : Int32) (v3 : Int32) (v4 : Int32) (σ : St) : Option Int32 :=
  bI (v4 + 1) fun x6 =>
  K5 v1 v2 v3 x6 σ
def Gs_rowerKindsLeft_L5B (N : Nat) (K5 : Nat → Int32 → Int32 → Int32 → St → Option Int32) (v1 : Nat) (v2 : Int32) (v3 : Int32) (v4 : Int32) (σ : St) : Option Int32 :=
  if 6 ≤ v4 then
    some v3
  else
    bR (Gs_rowerKindFits N (v1 + 9) v2 v4 σ) fun r2 =>
    if r2 = 0 then
      Gs_rowerKindsLeft_J33 N K5 v1 v2 v3 v4 σ
    else
      bI ((v3 ||| (1 <<< (v4 &&& 31)))) fun x7 =>
      Gs_rowerKindsLeft_J33 N K5 v1 v2 x7 v4 σ
def Gs_rowerKindsLeft_L5 (N : Nat) : Nat → Nat → Int32 → Int32 → Int32 → St → Option Int32
  | 0 => fun _ _ _ _ _ => none
  | n + 1 => fun v1 v2 v3 v4 σ => Gs_rowerKindsLeft_L5B N (Gs_rowerKindsLeft_L5 N n) v1 v2 v3 v4 σ
def Gs_rowerKindsLeft (N : Nat) (v1 : Nat) (v2 : Int32) (σ : St) : Option Int32 :=
  Gs_rowerKindsLeft_L5 N N v1 v2 0 0 σ
def Gs_startOver (N : Nat) (σ : St) : Option St :=
  bS (sI σ 64 1 (-1)) fun s1 =>
  bS (sI s1 64 2 11) fun s2 =>
  some s2
def Gs_isOpen (N : Nat) (σ : St) : Option Int32 :=
  if (σ.1 64 2) ≤ 1 then
    some 0
  else
    some 1
def Gs_isIn  (v0 : Int32) (v1 : Int32) : Int32 :=
  if (v0 &&& (1 <<< (v1 &&& 31))) = 0 then
    0
  else
    1
def Gs_largestCrowd_J66 (N : Nat) (K4 : Int32 → Int32 → Int32 → St → Option Int32) (v1 : Int32) (v2 : Int32) (v3 : Int32) (σ : St) : Option Int32 :=
  bI (v3 + 1) fun x6 =>
  K4 v1 v2 x6 σ
def Gs_largestCrowd_J59 (N : Nat) (K4 : Int32 → Int32 → Int32 → St → Option Int32) (v1 : Int32) (v2 : Int32) (v3 : Int32) (v4 : Int32) (σ : St) : Option Int32 :=
  bI ((mxI v2 v4)) fun x5 =>
  Gs_largestCrowd_J66 N K4 v1 x5 v3 σ
def Gs_largestCrowd_J53 (N : Nat) (K4 : Int32 → Int32 → Int32 → St → Option Int32) (K28 : Int32 → Int32 → Int32 → Int32 → Int32 → St → Option Int32) (v1 : Int32) (v2 : Int32) (v3 : Int32) (v4 : Int32) (v5 : Int32) (σ : St) : Option Int32 :=
  bI (v5 + 1) fun x10 =>
  K28 v1 v2 v3 v4 x10 σ
def Gs_largestCrowd_L28B (N : Nat) (K4 : Int32 → Int32 → Int32 → St → Option Int32) (K28 : Int32 → Int32 → Int32 → Int32 → Int32 → St → Option Int32) (v1 : Int32) (v2 : Int32) (v3 : Int32) (v4 : Int32) (v5 : Int32) (σ : St) : Option Int32 :=
  if v1 ≤ v5 then
    Gs_largestCrowd_J59 N K4 v1 v2 v3 v4 σ
  else
    ck (inB v5 10) <|
    ck (inB v3 10) <|
    if (σ.1 65 (v5).toNatClampNeg) = (σ.1 65 (v3).toNatClampNeg) then
      bI (v4 + 1) fun x11 =>
      Gs_largestCrowd_J53 N K4 K28 v1 v2 v3 x11 v5 σ
    else
      Gs_largestCrowd_J53 N K4 K28 v1 v2 v3 v4 v5 σ
def Gs_largestCrowd_L28 (N : Nat) (K4 : Int32 → Int32 → Int32 → St → Option Int32) : Nat → Int32 → Int32 → Int32 → Int32 → Int32 → St → Option Int32
  | 0 => fun _ _ _ _ _ _ => none
  | n + 1 => fun v1 v2 v3 v4 v5 σ => Gs_largestCrowd_L28B N K4 (Gs_largestCrowd_L28 N K4 n) v1 v2 v3 v4 v5 σ
def Gs_largestCrowd_L4B (N : Nat) (K4 : Int32 → Int32 → Int32 → St → Option Int32) (v1 : Int32) (v2 : Int32) (v3 : Int32) (σ : St) : Option Int32 :=
  if v1 ≤ v3 then
    some v2
  else
    ck (inB v3 10) <|
    if (σ.1 65 (v3).toNatClampNeg) = (-1) then
      Gs_largestCrowd_J66 N K4 v1 v2 v3 σ
    else
      Gs_largestCrowd_L28 N K4 N v1 v2 v3 0 v3 σ
def Gs_largestCrowd_L4 (N : Nat) : Nat → Int32 → Int32 → Int32 → St → Option Int32
  | 0 => fun _ _ _ _ => none
  | n + 1 => fun v1 v2 v3 σ => Gs_largestCrowd_L4B N (Gs_largestCrowd_L4 N n) v1 v2 v3 σ
def Gs_largestCrowd (N : Nat) (v1 : Int32) (σ : St) : Option Int32 :=
  Gs_largestCrowd_L4 N N v1 0 0 σ
def Gs_weigh (N : Nat) (v1 : Int32) (v2 : Int32) (σ : St) : Option St :=
  bR (Gs_largestCrowd N v2 σ) fun r1 =>
  if r1 ≤ 0 then
    some σ
  else
    if (σ.1 64 2) ≤ r1 then
      some σ
    else
      bS (sI σ 64 1 v1) fun s6 =>
      bS (sI s6 64 2 r1) fun s7 =>
      some s7
def Gs_bestTelling_J129 (N : Nat) (σ : St) : Option (Int32 × St) :=
  some ((σ.1 64 1), σ)
def Gs_bestTelling_J123 (N : Nat) (K25 : Int32 → Int32 → Int32 → St → Option (Int32 × St)) (v3 : Int32) (v4 : Int32) (v5 : Int32) (σ : St) : Option (Int32 × St) :=
  bI (v5 + 1) fun x16 =>
  K25 v3 v4 x16 σ
def Gs_bestTelling_J103 (N : Nat) (K25 : Int32 → Int32 → Int32 → St → Option (Int32 × St)) (K42 : Int32 → Int32 → Int32 → Int32 → St → Option (Int32 × St)) (v3 : Int32) (v4 : Int32) (v5 : Int32) (v6 : Int32) (σ : St) : Option (Int32 × St) :=
  bR (Gs_weigh N ((100 * v5) + v6) 10 σ) fun s23 =>
  bI (v6 + 1) fun x26 =>
  K42 v3 v4 v5 x26 s23
def Gs_bestTelling_J96 (N : Nat) (K25 : Int32 → Int32 → Int32 → St → Option (Int32 × St)) (K42 : Int32 → Int32 → Int32 → Int32 → St → Option (Int32 × St)) (K59 : Int32 → Int32 → Int32 → Int32 → Int32 → St → Option (Int32 × St)) (v3 : Int32) (v4 : Int32) (v5 : Int32) (v6 : Int32) (v7 : Int32) (w1 : Int32) (w2 : Int32) (σ : St) : Option (Int32 × St) :=
  ck (inB w1 10) <|
  bS (sI σ 65 (w1).toNatClampNeg w2) fun s32 =>
  bI (v7 + 1) fun x33 =>
  K59 v3 v4 v5 v6 x33 s32
def Gs_bestTelling_L59B (N : Nat) (K25 : Int32 → Int32 → Int32 → St → Option (Int32 × St)) (K42 : Int32 → Int32 → Int32 → Int32 → St → Option (Int32 × St)) (K59 : Int32 → Int32 → Int32 → Int32 → Int32 → St → Option (Int32 × St)) (v3 : Int32) (v4 : Int32) (v5 : Int32) (v6 : Int32) (v7 : Int32) (σ : St) : Option (Int32 × St) :=
  if 10 ≤ v7 then
    Gs_bestTelling_J103 N K25 K42 v3 v4 v5 v6 σ
  else
    if (Gs_isIn v3 v7) = 0 then
      Gs_bestTelling_J96 N K25 K42 K59 v3 v4 v5 v6 v7 v7 (-1) σ
    else
      Gs_bestTelling_J96 N K25 K42 K59 v3 v4 v5 v6 v7 v7 (Ro_toldBy v4 v7 v5 v6) σ
def Gs_bestTelling_L59 (N : Nat) (K25 : Int32 → Int32 → Int32 → St → Option (Int32 × St)) (K42 : Int32 → Int32 → Int32 → Int32 → St → Option (Int32 × St)) : Nat → Int32 → Int32 → Int32 → Int32 → Int32 → St → Option (Int32 × St)
  | 0 => fun _ _ _ _ _ _ => none
  | n + 1 => fun v3 v4 v5 v6 v7 σ => Gs_bestTelling_L59B N K25 K42 (Gs_bestTelling_L59 N K25 K42 n) v3 v4 v5 v6 v7 σ
def Gs_bestTelling_L42B (N : Nat) (K25 : Int32 → Int32 → Int32 → St → Option (Int32 × St)) (K42 : Int32 → Int32 → Int32 → Int32 → St → Option (Int32 × St)) (v3 : Int32) (v4 : Int32) (v5 : Int32) (v6 : Int32) (σ : St) : Option (Int32 × St) :=
  if 30 < v6 then
    Gs_bestTelling_J123 N K25 v3 v4 v5 σ
  else
    bR (Gs_isOpen N σ) fun r17 =>
    if r17 = 0 then
      Gs_bestTelling_J123 N K25 v3 v4 v5 σ
    else
      Gs_bestTelling_L59 N K25 K42 N v3 v4 v5 v6 0 σ
def Gs_bestTelling_L42 (N : Nat) (K25 : Int32 → Int32 → Int32 → St → Option (Int32 × St)) : Nat → Int32 → Int32 → Int32 → Int32 → St → Option (Int32 × St)
  | 0 => fun _ _ _ _ _ => none
  | n + 1 => fun v3 v4 v5 v6 σ => Gs_bestTelling_L42B N K25 (Gs_bestTelling_L42 N K25 n) v3 v4 v5 v6 σ
def Gs_bestTelling_L25B (N : Nat) (K25 : Int32 → Int32 → Int32 → St → Option (Int32 × St)) (v3 : Int32) (v4 : Int32) (v5 : Int32) (σ : St) : Option (Int32 × St) :=
  if 9 < v5 then
    Gs_bestTelling_J129 N σ
  else
    bR (Gs_isOpen N σ) fun r11 =>
    if r11 = 0 then
      Gs_bestTelling_J129 N σ
    else
      Gs_bestTelling_L42 N K25 N v3 v4 v5 0 σ
def Gs_bestTelling_L25 (N : Nat) : Nat → Int32 → Int32 → Int32 → St → Option (Int32 × St)
  | 0 => fun _ _ _ _ => none
  | n + 1 => fun v3 v4 v5 σ => Gs_bestTelling_L25B N (Gs_bestTelling_L25 N n) v3 v4 v5 σ
def Gs_bestTelling (N : Nat) (v1 : Nat) (v2 : Int32) (σ : St) : Option (Int32 × St) :=
  bR (Gs_tonguesLeft N v1 v2 σ) fun r1 =>
  ck (inB v2 3) <|
  bI ((σ.1 (v1 + 13 + (v2).toNatClampNeg) 0)) fun x5 =>
  bR (Gs_startOver N σ) fun s7 =>
  Gs_bestTelling_L25 N N r1 x5 0 s7
def Gs_bestAsking_J129 (N : Nat) (σ : St) : Option (Int32 × St) :=
  some ((σ.1 64 1), σ)
def Gs_bestAsking_J123 (N : Nat) (K25 : Int32 → Int32 → Int32 → St → Option (Int32 × St)) (v3 : Int32) (v4 : Int32) (v5 : Int32) (σ : St) : Option (Int32 × St) :=
  bI (v5 + 1) fun x16 =>
  K25 v3 v4 x16 σ
def Gs_bestAsking_J103 (N : Nat) (K25 : Int32 → Int32 → Int32 → St → Option (Int32 × St)) (K42 : Int32 → Int32 → Int32 → Int32 → St → Option (Int32 × St)) (v3 : Int32) (v4 : Int32) (v5 : Int32) (v6 : Int32) (σ : St) : Option (Int32 × St) :=
  bR (Gs_weigh N ((100 * v5) + v6) 6 σ) fun s23 =>
  bI (v6 + 1) fun x26 =>
  K42 v3 v4 v5 x26 s23
def Gs_bestAsking_J96 (N : Nat) (K25 : Int32 → Int32 → Int32 → St → Option (Int32 × St)) (K42 : Int32 → Int32 → Int32 → Int32 → St → Option (Int32 × St)) (K59 : Int32 → Int32 → Int32 → Int32 → Int32 → St → Option (Int32 × St)) (v3 : Int32) (v4 : Int32) (v5 : Int32) (v6 : Int32) (v7 : Int32) (w1 : Int32) (w2 : Int32) (σ : St) : Option (Int32 × St) :=
  ck (inB w1 10) <|
  bS (sI σ 65 (w1).toNatClampNeg w2) fun s32 =>
  bI (v7 + 1) fun x33 =>
  K59 v3 v4 v5 v6 x33 s32
def Gs_bestAsking_L59B (N : Nat) (K25 : Int32 → Int32 → Int32 → St → Option (Int32 × St)) (K42 : Int32 → Int32 → Int32 → Int32 → St → Option (Int32 × St)) (K59 : Int32 → Int32 → Int32 → Int32 → Int32 → St → Option (Int32 × St)) (v3 : Int32) (v4 : Int32) (v5 : Int32) (v6 : Int32) (v7 : Int32) (σ : St) : Option (Int32 × St) :=
  if 6 ≤ v7 then
    Gs_bestAsking_J103 N K25 K42 v3 v4 v5 v6 σ
  else
    if (Gs_isIn v3 v7) = 0 then
      Gs_bestAsking_J96 N K25 K42 K59 v3 v4 v5 v6 v7 v7 (-1) σ
    else
      Gs_bestAsking_J96 N K25 K42 K59 v3 v4 v5 v6 v7 v7 (Ro_toldBy v7 v4 v5 v6) σ
def Gs_bestAsking_L59 (N : Nat) (K25 : Int32 → Int32 → Int32 → St → Option (Int32 × St)) (K42 : Int32 → Int32 → Int32 → Int32 → St → Option (Int32 × St)) : Nat → Int32 → Int32 → Int32 → Int32 → Int32 → St → Option (Int32 × St)
  | 0 => fun _ _ _ _ _ _ => none
  | n + 1 => fun v3 v4 v5 v6 v7 σ => Gs_bestAsking_L59B N K25 K42 (Gs_bestAsking_L59 N K25 K42 n) v3 v4 v5 v6 v7 σ
def Gs_bestAsking_L42B (N : Nat) (K25 : Int32 → Int32 → Int32 → St → Option (Int32 × St)) (K42 : Int32 → Int32 → Int32 → Int32 → St → Option (Int32 × St)) (v3 : Int32) (v4 : Int32) (v5 : Int32) (v6 : Int32) (σ : St) : Option (Int32 × St) :=
  if 30 < v6 then
    Gs_bestAsking_J123 N K25 v3 v4 v5 σ
  else
    bR (Gs_isOpen N σ) fun r17 =>
    if r17 = 0 then
      Gs_bestAsking_J123 N K25 v3 v4 v5 σ
    else
      Gs_bestAsking_L59 N K25 K42 N v3 v4 v5 v6 0 σ
def Gs_bestAsking_L42 (N : Nat) (K25 : Int32 → Int32 → Int32 → St → Option (Int32 × St)) : Nat → Int32 → Int32 → Int32 → Int32 → St → Option (Int32 × St)
  | 0 => fun _ _ _ _ _ => none
  | n + 1 => fun v3 v4 v5 v6 σ => Gs_bestAsking_L42B N K25 (Gs_bestAsking_L42 N K25 n) v3 v4 v5 v6 σ
def Gs_bestAsking_L25B (N : Nat) (K25 : Int32 → Int32 → Int32 → St → Option (Int32 × St)) (v3 : Int32) (v4 : Int32) (v5 : Int32) (σ : St) : Option (Int32 × St) :=
  if 9 < v5 then
    Gs_bestAsking_J129 N σ
  else
    bR (Gs_isOpen N σ) fun r11 =>
    if r11 = 0 then
      Gs_bestAsking_J129 N σ
    else
      Gs_bestAsking_L42 N K25 N v3 v4 v5 0 σ
def Gs_bestAsking_L25 (N : Nat) : Nat → Int32 → Int32 → Int32 → St → Option (Int32 × St)
  | 0 => fun _ _ _ _ => none
  | n + 1 => fun v3 v4 v5 σ => Gs_bestAsking_L25B N (Gs_bestAsking_L25 N n) v3 v4 v5 σ
def Gs_bestAsking (N : Nat) (v1 : Nat) (v2 : Int32) (σ : St) : Option (Int32 × St) :=
  bR (Gs_rowerKindsLeft N v1 v2 σ) fun r1 =>
  ck (inB v2 3) <|
  bI ((σ.1 (v1 + 13 + (v2).toNatClampNeg) 1)) fun x5 =>
  bR (Gs_startOver N σ) fun s7 =>
  Gs_bestAsking_L25 N N r1 x5 0 s7
def Gs_bestLook_J134 (N : Nat) (σ : St) : Option (Int32 × St) :=
  some ((σ.1 64 1), σ)
def Gs_bestLook_J128 (N : Nat) (K22 : Int32 → Nat → Int32 → St → Option (Int32 × St)) (v3 : Int32) (v4 : Nat) (v5 : Int32) (σ : St) : Option (Int32 × St) :=
  bI (v5 + 1) fun x15 =>
  K22 v3 v4 x15 σ
def Gs_bestLook_J108 (N : Nat) (K22 : Int32 → Nat → Int32 → St → Option (Int32 × St)) (K39 : Int32 → Nat → Int32 → Int32 → St → Option (Int32 × St)) (v3 : Int32) (v4 : Nat) (v5 : Int32) (v6 : Int32) (σ : St) : Option (Int32 × St) :=
  bR (Gs_weigh N ((100 * v5) + v6) 6 σ) fun s22 =>
  bI (v6 + 1) fun x25 =>
  K39 v3 v4 v5 x25 s22
def Gs_bestLook_J101 (N : Nat) (K22 : Int32 → Nat → Int32 → St → Option (Int32 × St)) (K39 : Int32 → Nat → Int32 → Int32 → St → Option (Int32 × St)) (K56 : Int32 → Nat → Int32 → Int32 → Int32 → St → Option (Int32 × St)) (v3 : Int32) (v4 : Nat) (v5 : Int32) (v6 : Int32) (v7 : Int32) (w1 : Int32) (w2 : Int32) (σ : St) : Option (Int32 × St) :=
  ck (inB w1 10) <|
  bS (sI σ 65 (w1).toNatClampNeg w2) fun s31 =>
  bI (v7 + 1) fun x32 =>
  K56 v3 v4 v5 v6 x32 s31
def Gs_bestLook_L56B (N : Nat) (K22 : Int32 → Nat → Int32 → St → Option (Int32 × St)) (K39 : Int32 → Nat → Int32 → Int32 → St → Option (Int32 × St)) (K56 : Int32 → Nat → Int32 → Int32 → Int32 → St → Option (Int32 × St)) (v3 : Int32) (v4 : Nat) (v5 : Int32) (v6 : Int32) (v7 : Int32) (σ : St) : Option (Int32 × St) :=
  if 6 ≤ v7 then
    Gs_bestLook_J108 N K22 K39 v3 v4 v5 v6 σ
  else
    if (Gs_isIn v3 v7) = 0 then
      Gs_bestLook_J101 N K22 K39 K56 v3 v4 v5 v6 v7 v7 (-1) σ
    else
      Gs_bestLook_J101 N K22 K39 K56 v3 v4 v5 v6 v7 v7 (Gu_hurtOf v7 (σ.1 v4 1) (σ.1 v4 2) v6 v5) σ
def Gs_bestLook_L56 (N : Nat) (K22 : Int32 → Nat → Int32 → St → Option (Int32 × St)) (K39 : Int32 → Nat → Int32 → Int32 → St → Option (Int32 × St)) : Nat → Int32 → Nat → Int32 → Int32 → Int32 → St → Option (Int32 × St)
  | 0 => fun _ _ _ _ _ _ => none
  | n + 1 => fun v3 v4 v5 v6 v7 σ => Gs_bestLook_L56B N K22 K39 (Gs_bestLook_L56 N K22 K39 n) v3 v4 v5 v6 v7 σ
def Gs_bestLook_L39B (N : Nat) (K22 : Int32 → Nat → Int32 → St → Option (Int32 × St)) (K39 : Int32 → Nat → Int32 → Int32 → St → Option (Int32 × St)) (v3 : Int32) (v4 : Nat) (v5 : Int32) (v6 : Int32) (σ : St) : Option (Int32 × St) :=
  if 20 < v6 then
    Gs_bestLook_J128 N K22 v3 v4 v5 σ
  else
    bR (Gs_isOpen N σ) fun r16 =>
    if r16 = 0 then
      Gs_bestLook_J128 N K22 v3 v4 v5 σ
    else
      Gs_bestLook_L56 N K22 K39 N v3 v4 v5 v6 0 σ
def Gs_bestLook_L39 (N : Nat) (K22 : Int32 → Nat → Int32 → St → Option (Int32 × St)) : Nat → Int32 → Nat → Int32 → Int32 → St → Option (Int32 × St)
  | 0 => fun _ _ _ _ _ => none
  | n + 1 => fun v3 v4 v5 v6 σ => Gs_bestLook_L39B N K22 (Gs_bestLook_L39 N K22 n) v3 v4 v5 v6 σ
def Gs_bestLook_L22B (N : Nat) (K22 : Int32 → Nat → Int32 → St → Option (Int32 × St)) (v3 : Int32) (v4 : Nat) (v5 : Int32) (σ : St) : Option (Int32 × St) :=
  if 9 < v5 then
    Gs_bestLook_J134 N σ
  else
    bR (Gs_isOpen N σ) fun r10 =>
    if r10 = 0 then
      Gs_bestLook_J134 N σ
    else
      Gs_bestLook_L39 N K22 N v3 v4 v5 0 σ
def Gs_bestLook_L22 (N : Nat) : Nat → Int32 → Nat → Int32 → St → Option (Int32 × St)
  | 0 => fun _ _ _ _ => none
  | n + 1 => fun v3 v4 v5 σ => Gs_bestLook_L22B N (Gs_bestLook_L22 N n) v3 v4 v5 σ
def Gs_bestLook (N : Nat) (v1 : Nat) (v2 : Int32) (σ : St) : Option (Int32 × St) :=
  bR (Gs_guestKindsLeft N v1 v2 σ) fun r1 =>
  ck (inB v2 4) <|
  bR (Gs_startOver N σ) fun s6 =>
  Gs_bestLook_L22 N N r1 (v1 + 16 + (v2).toNatClampNeg) 0 s6
def Gu_take (N : Nat) (v0 : Nat) (v1 : Nat) (σ : St) : Option St :=
  bS (sI σ v0 0 (σ.1 v1 0)) fun s1 =>
  bS (sI s1 v0 1 (s1.1 v1 1)) fun s2 =>
  bS (sI s2 v0 2 (s2.1 v1 2)) fun s3 =>
  bS (sI s3 v0 3 (s3.1 v1 3)) fun s4 =>
  bS (sI s4 v0 4 (s4.1 v1 4)) fun s5 =>
  bS (sI s5 v0 5 (s5.1 v1 5)) fun s6 =>
  some s6
def Gu_getIn (N : Nat) (v0 : Nat) (σ : St) : Option St :=
  bS (sI σ v0 4 0) fun s1 =>
  bS (sI s1 v0 5 0) fun s2 =>
  some s2
def Gu_come (N : Nat) (v0 : Nat) (v1 : Int32) (v2 : Int32) (σ : St) : Option St :=
  bS (sI σ v0 0 v1) fun s1 =>
  bS (sI s1 v0 1 v2) fun s2 =>
  bS (sI s2 v0 2 0) fun s3 =>
  bS (sI s3 v0 3 0) fun s4 =>
  bR (Gu_getIn N v0 s4) fun s6 =>
  some s6
def Gu_isTold (N : Nat) (v0 : Nat) (σ : St) : Option Int32 :=
  if (σ.1 v0 2) < (σ.1 v0 1) then
    some 0
  else
    some 1
def Gu_goTo (N : Nat) (v0 : Nat) (v1 : Int32) (v2 : Int32) (σ : St) : Option St :=
  bS (sI σ v0 5 (mnI 999 ((σ.1 v0 5) + v2))) fun s1 =>
  bS (sI s1 v0 4 v1) fun s2 =>
  some s2
def Gu_takenIn (N : Nat) (v0 : Nat) (v1 : Int32) (σ : St) : Option Int32 :=
  some (mnI v1 ((σ.1 v0 1) - (σ.1 v0 2)))
def Gu_hear (N : Nat) (v0 : Nat) (v1 : Int32) (v2 : Int32) (σ : St) : Option St :=
  bR (Gu_takenIn N v0 v1 σ) fun r1 =>
  bS (sI σ v0 3 (mnI 999 ((σ.1 v0 3) + (Gu_hurtOf (σ.1 v0 0) (σ.1 v0 1) (σ.1 v0 2) r1 v2)))) fun s7 =>
  bS (sI s7 v0 2 ((s7.1 v0 2) + r1)) fun s8 =>
  some s8
def Gu_fact (N : Nat) (v0 : Nat) (v1 : Int32) (σ : St) : Option Int32 :=
  if v1 = 0 then
    some (σ.1 v0 0)
  else
    if v1 = 1 then
      some (σ.1 v0 1)
    else
      if v1 = 2 then
        some (σ.1 v0 2)
      else
        if v1 = 3 then
          some (σ.1 v0 3)
        else
          if v1 = 4 then
            some (σ.1 v0 4)
          else
            some (σ.1 v0 5)
def Ni_strokesBetween (N : Nat) (v0 : Nat) (v1 : Int32) (v2 : Int32) (σ : St) : Option Int32 :=
  ck (inB ((v1 * 8) + v2) 64) <|
  some (σ.1 (v0 + 2) (((v1 * 8) + v2)).toNatClampNeg)
def Ro_tells (N : Nat) (v0 : Nat) (v1 : Int32) (v2 : Int32) (σ : St) : Option Int32 :=
  some (Ro_toldBy (σ.1 v0 0) (σ.1 v0 1) v1 v2)
def Ni_carry (N : Nat) (v0 : Nat) (v1 : Nat) (v2 : Nat) (v3 : Int32) (σ : St) : Option St :=
  bR (Ni_strokesBetween N v0 (σ.1 v1 4) v3 σ) fun r1 =>
  bR (Gu_goTo N v1 v3 r1 σ) fun s5 =>
  ck (inB v3 8) <|
  bR (Ro_tells N v2 (s5.1 (v0 + 1) (v3).toNatClampNeg) (s5.1 v1 5) s5) fun r9 =>
  ck (inB v3 8) <|
  bR (Gu_hear N v1 r9 (s5.1 (v0 + 1) (v3).toNatClampNeg) s5) fun s14 =>
  some s14
def He_goAlong_J77 (N : Nat) (K11 : Nat → Nat → Int32 → Int32 → St → Option St) (v1 : Nat) (v3 : Nat) (v5 : Int32) (v6 : Int32) (σ : St) : Option St :=
  bI (v6 + 1) fun x16 =>
  K11 v1 v3 v5 x16 σ
def He_goAlong_L11B (N : Nat) (K11 : Nat → Nat → Int32 → Int32 → St → Option St) (v1 : Nat) (v3 : Nat) (v5 : Int32) (v6 : Int32) (σ : St) : Option St :=
  if (σ.1 47 2) ≤ v6 then
    some σ
  else
    ck (inB v6 8) <|
    bI ((σ.1 49 (v6).toNatClampNeg)) fun x7 =>
    if (v5 &&& (1 <<< (v6 &&& 31))) = 0 then
      bR (Ni_carry N v1 70 v3 x7 σ) fun s18 =>
      He_goAlong_J77 N K11 v1 v3 v5 v6 s18
    else
      bR (Ni_strokesBetween N v1 (σ.1 70 4) x7 σ) fun r9 =>
      bR (Gu_goTo N 70 x7 r9 σ) fun s13 =>
      He_goAlong_J77 N K11 v1 v3 v5 v6 s13
def He_goAlong_L11 (N : Nat) : Nat → Nat → Nat → Int32 → Int32 → St → Option St
  | 0 => fun _ _ _ _ _ => none
  | n + 1 => fun v1 v3 v5 v6 σ => He_goAlong_L11B N (He_goAlong_L11 N n) v1 v3 v5 v6 σ
def He_goAlong (N : Nat) (v1 : Nat) (v2 : Nat) (v3 : Nat) (v5 : Int32) (σ : St) : Option St :=
  bR (Gu_take N 70 v2 σ) fun s2 =>
  He_goAlong_L11 N N v1 v3 v5 0 s2
def He_weight_J31 (N : Nat) (K5 : Int32 → Int32 → Int32 → Int64 → Int32 → St → Option Int64) (v0 : Int32) (v1 : Int32) (v2 : Int32) (v5 : Int32) (w0 : Int64) (w1 : Int64) (σ : St) : Option Int64 :=
  bL ((w0 * w1)) fun x3 =>
  bI (v5 + 1) fun x4 =>
  K5 v0 v1 v2 x3 x4 σ
def He_weight_L5B (N : Nat) (K5 : Int32 → Int32 → Int32 → Int64 → Int32 → St → Option Int64) (v0 : Int32) (v1 : Int32) (v2 : Int32) (v3 : Int64) (v5 : Int32) (σ : St) : Option Int64 :=
  if v0 ≤ v5 then
    some v3
  else
    if (v1 &&& (1 <<< (v5 &&& 31))) = 0 then
      He_weight_J31 N K5 v0 v1 v2 v5 v3 (((10 - v2)).toInt64) σ
    else
      He_weight_J31 N K5 v0 v1 v2 v5 v3 ((v2).toInt64) σ
def He_weight_L5 (N : Nat) : Nat → Int32 → Int32 → Int32 → Int64 → Int32 → St → Option Int64
  | 0 => fun _ _ _ _ _ _ => none
  | n + 1 => fun v0 v1 v2 v3 v5 σ => He_weight_L5B N (He_weight_L5 N n) v0 v1 v2 v3 v5 σ
def He_weight (N : Nat) (v0 : Int32) (v1 : Int32) (v2 : Int32) (σ : St) : Option Int64 :=
  He_weight_L5 N N v0 v1 v2 1 0 σ
def He_tenToThe_L4B (N : Nat) (K4 : Int32 → Int64 → Int32 → St → Option Int64) (v0 : Int32) (v1 : Int64) (v3 : Int32) (σ : St) : Option Int64 :=
  if v0 ≤ v3 then
    some v1
  else
    bL ((v1 * 10)) fun x2 =>
    bI (v3 + 1) fun x3 =>
    K4 v0 x2 x3 σ
def He_tenToThe_L4 (N : Nat) : Nat → Int32 → Int64 → Int32 → St → Option Int64
  | 0 => fun _ _ _ _ => none
  | n + 1 => fun v0 v1 v3 σ => He_tenToThe_L4B N (He_tenToThe_L4 N n) v0 v1 v3 σ
def He_tenToThe (N : Nat) (v0 : Int32) (σ : St) : Option Int64 :=
  He_tenToThe_L4 N N v0 1 0 σ
def He_setFraction_J44 (N : Nat) (v1 : Int64) (v3 : Int64) (v5 : Int64) (σ : St) : Option St :=
  if (lg_cmp v5 0) ≤ 0 then
    some σ
  else
    if v5 = 0 then none else
    bS (sL σ 69 1 (v1 / v5)) fun s4 =>
    if v5 = 0 then none else
    bS (sL s4 69 2 (v3 / v5)) fun s6 =>
    some s6
def He_setFraction_L9B (N : Nat) (K9 : Int64 → Int64 → Int64 → Int64 → Int32 → St → Option St) (v1 : Int64) (v3 : Int64) (v5 : Int64) (v7 : Int64) (v9 : Int32) (σ : St) : Option St :=
  if 100 ≤ v9 then
    He_setFraction_J44 N v1 v3 v5 σ
  else
    if (lg_cmp v7 0) = 0 then
      He_setFraction_J44 N v1 v3 v5 σ
    else
      if v7 = 0 then none else
      bL ((v5 - v5 / v7 * v7)) fun x9 =>
      bI (v9 + 1) fun x10 =>
      K9 v1 v3 v7 x9 x10 σ
def He_setFraction_L9 (N : Nat) : Nat → Int64 → Int64 → Int64 → Int64 → Int32 → St → Option St
  | 0 => fun _ _ _ _ _ _ => none
  | n + 1 => fun v1 v3 v5 v7 v9 σ => He_setFraction_L9B N (He_setFraction_L9 N n) v1 v3 v5 v7 v9 σ
def He_setFraction (N : Nat) (v1 : Int64) (v3 : Int64) (σ : St) : Option St :=
  He_setFraction_L9 N N v1 v3 v1 v3 0 σ
def He_chance_J64 (N : Nat) (v7 : Int64) (σ : St) : Option St :=
  bR (He_tenToThe N (σ.1 47 2) σ) fun r2 =>
  bR (He_setFraction N v7 r2 σ) fun s6 =>
  some s6
def He_chance_J58 (N : Nat) (K6 : Nat → Nat → Nat → Int32 → Int32 → Int64 → Int32 → St → Option St) (v1 : Nat) (v2 : Nat) (v3 : Nat) (v5 : Int32) (v6 : Int32) (v7 : Int64) (v9 : Int32) (σ : St) : Option St :=
  bI (v9 + 1) fun x14 =>
  K6 v1 v2 v3 v5 v6 v7 x14 σ
def He_chance_L6B (N : Nat) (K6 : Nat → Nat → Nat → Int32 → Int32 → Int64 → Int32 → St → Option St) (v1 : Nat) (v2 : Nat) (v3 : Nat) (v5 : Int32) (v6 : Int32) (v7 : Int64) (v9 : Int32) (σ : St) : Option St :=
  if (1 <<< ((σ.1 47 2) &&& 31)) ≤ v9 then
    He_chance_J64 N v7 σ
  else
    bR (He_goAlong N v1 v2 v3 v9 σ) fun s10 =>
    if (s10.1 70 2) < v5 then
      He_chance_J58 N K6 v1 v2 v3 v5 v6 v7 v9 s10
    else
      bR (He_weight N (s10.1 47 2) v9 v6 s10) fun r15 =>
      bL ((v7 + r15)) fun x18 =>
      He_chance_J58 N K6 v1 v2 v3 v5 v6 x18 v9 s10
def He_chance_L6 (N : Nat) : Nat → Nat → Nat → Nat → Int32 → Int32 → Int64 → Int32 → St → Option St
  | 0 => fun _ _ _ _ _ _ _ _ => none
  | n + 1 => fun v1 v2 v3 v5 v6 v7 v9 σ => He_chance_L6B N (He_chance_L6 N n) v1 v2 v3 v5 v6 v7 v9 σ
def He_chance (N : Nat) (v1 : Nat) (v2 : Nat) (v3 : Nat) (v5 : Int32) (v6 : Int32) (σ : St) : Option St :=
  He_chance_L6 N N v1 v2 v3 v5 v6 0 0 σ
def He_meanHurt_J61 (N : Nat) (v6 : Int64) (σ : St) : Option St :=
  bR (He_tenToThe N (σ.1 47 2) σ) fun r2 =>
  bR (He_setFraction N v6 r2 σ) fun s6 =>
  some s6
def He_meanHurt_L6B (N : Nat) (K6 : Nat → Nat → Nat → Int32 → Int64 → Int32 → St → Option St) (v1 : Nat) (v2 : Nat) (v3 : Nat) (v5 : Int32) (v6 : Int64) (v8 : Int32) (σ : St) : Option St :=
  if (1 <<< ((σ.1 47 2) &&& 31)) ≤ v8 then
    He_meanHurt_J61 N v6 σ
  else
    bR (He_goAlong N v1 v2 v3 v8 σ) fun s10 =>
    bR (He_weight N (s10.1 47 2) v8 v5 s10) fun r13 =>
    bL ((v6 + (r13 * (((s10.1 70 3)).toInt64)))) fun x16 =>
    bI (v8 + 1) fun x17 =>
    K6 v1 v2 v3 v5 x16 x17 s10
def He_meanHurt_L6 (N : Nat) : Nat → Nat → Nat → Nat → Int32 → Int64 → Int32 → St → Option St
  | 0 => fun _ _ _ _ _ _ _ => none
  | n + 1 => fun v1 v2 v3 v5 v6 v8 σ => He_meanHurt_L6B N (He_meanHurt_L6 N n) v1 v2 v3 v5 v6 v8 σ
def He_meanHurt (N : Nat) (v1 : Nat) (v2 : Nat) (v3 : Nat) (v5 : Int32) (σ : St) : Option St :=
  He_meanHurt_L6 N N v1 v2 v3 v5 0 0 σ
def La_toGuest (N : Nat) (v1 : Int32) (v2 : Int32) (σ : St) : Option Int32 :=
  ck (inB (mnI v1 v2) 4) <|
  some ((10 - (σ.1 67 ((mnI v1 v2)).toNatClampNeg)) - v1)
def La_toRower (N : Nat) (v1 : Int32) (v2 : Int32) (σ : St) : Option Int32 :=
  ck (inB (mnI v1 v2) 4) <|
  some ((10 - (σ.1 67 ((mnI v1 v2)).toNatClampNeg)) - (2 * v2))
def La_rests_L2B (N : Nat) (K2 : Int32 → Int32 → Int32 → St → Option Int32) (v1 : Int32) (v2 : Int32) (v3 : Int32) (σ : St) : Option Int32 :=
  if 4 ≤ v3 then
    some 1
  else
    bR (La_toGuest N v3 v2 σ) fun r2 =>
    bR (La_toGuest N v1 v2 σ) fun r5 =>
    if r5 < r2 then
      some 0
    else
      bR (La_toRower N v1 v3 σ) fun r9 =>
      bR (La_toRower N v1 v2 σ) fun r12 =>
      if r9 ≤ r12 then
        bI (v3 + 1) fun x16 =>
        K2 v1 v2 x16 σ
      else
        some 0
def La_rests_L2 (N : Nat) : Nat → Int32 → Int32 → Int32 → St → Option Int32
  | 0 => fun _ _ _ _ => none
  | n + 1 => fun v1 v2 v3 σ => La_rests_L2B N (La_rests_L2 N n) v1 v2 v3 σ
def La_rests (N : Nat) (v1 : Int32) (v2 : Int32) (σ : St) : Option Int32 :=
  La_rests_L2 N N v1 v2 0 σ
def La_search_J124 (N : Nat) (K68 : Int32 → St → Option St) (v3 : Int32) (σ : St) : Option St :=
  bI (v3 + 1) fun x5 =>
  K68 x5 σ
def La_search_J118 (N : Nat) (K68 : Int32 → St → Option St) (K76 : Int32 → Int32 → St → Option St) (v3 : Int32) (v4 : Int32) (σ : St) : Option St :=
  bI (v4 + 1) fun x10 =>
  K76 v3 x10 σ
def La_search_L76B (N : Nat) (K68 : Int32 → St → Option St) (K76 : Int32 → Int32 → St → Option St) (v3 : Int32) (v4 : Int32) (σ : St) : Option St :=
  if 4 ≤ v4 then
    La_search_J124 N K68 v3 σ
  else
    bR (La_rests N v3 v4 σ) fun r6 =>
    if r6 = 0 then
      La_search_J118 N K68 K76 v3 v4 σ
    else
      ck (inB (σ.1 66 2) 16) <|
      bS (sI σ 68 ((σ.1 66 2)).toNatClampNeg ((10 * v3) + v4)) fun s12 =>
      bS (sI s12 66 2 ((s12.1 66 2) + 1)) fun s13 =>
      La_search_J118 N K68 K76 v3 v4 s13
def La_search_L76 (N : Nat) (K68 : Int32 → St → Option St) : Nat → Int32 → Int32 → St → Option St
  | 0 => fun _ _ _ => none
  | n + 1 => fun v3 v4 σ => La_search_L76B N K68 (La_search_L76 N K68 n) v3 v4 σ
def La_search_L68B (N : Nat) (K68 : Int32 → St → Option St) (v3 : Int32) (σ : St) : Option St :=
  if 4 ≤ v3 then
    some σ
  else
    La_search_L76 N K68 N v3 0 σ
def La_search_L68 (N : Nat) : Nat → Int32 → St → Option St
  | 0 => fun _ _ => none
  | n + 1 => fun v3 σ => La_search_L68B N (La_search_L68 N n) v3 σ
def La_search_J61 (N : Nat) (σ : St) : Option St :=
  bS (sI σ 66 2 0) fun s2 =>
  La_search_L68 N N 0 s2
def La_search_L2B (N : Nat) (K2 : Nat → Nat → Int32 → St → Option St) (v1 : Nat) (v2 : Nat) (v3 : Int32) (σ : St) : Option St :=
  if 4 ≤ v3 then
    La_search_J61 N σ
  else
    ck (inB v3 4) <|
    bI ((duL.getD (v3).toNatClampNeg 0)) fun x15 =>
    bR (Ro_tells N v2 x15 (σ.1 v1 5) σ) fun r16 =>
    bR (Gu_takenIn N v1 r16 σ) fun r19 =>
    ck (inB v3 4) <|
    bS (sI σ 67 (v3).toNatClampNeg (Gu_hurtOf (σ.1 v1 0) (σ.1 v1 1) (σ.1 v1 2) r19 x15)) fun s26 =>
    bI (v3 + 1) fun x27 =>
    K2 v1 v2 x27 s26
def La_search_L2 (N : Nat) : Nat → Nat → Nat → Int32 → St → Option St
  | 0 => fun _ _ _ _ => none
  | n + 1 => fun v1 v2 v3 σ => La_search_L2B N (La_search_L2 N n) v1 v2 v3 σ
def La_search (N : Nat) (v1 : Nat) (v2 : Nat) (σ : St) : Option St :=
  La_search_L2 N N v1 v2 0 σ
def Ni_begin_J45 (N : Nat) (v0 : Nat) (σ : St) : Option St :=
  bS (sI σ v0 4 0) fun s3 =>
  bS (sI s3 v0 5 0) fun s4 =>
  bS (sI s4 (v0 + 5) 3 0) fun s5 =>
  bS (sI s5 (v0 + 7) 3 0) fun s6 =>
  bS (sI s6 (v0 + 9) 3 0) fun s7 =>
  bS (sI s7 (v0 + 11) 1 0) fun s8 =>
  some s8
def Ni_begin_L23B (N : Nat) (K23 : Nat → Int32 → St → Option St) (v0 : Nat) (v2 : Int32) (σ : St) : Option St :=
  if 64 ≤ v2 then
    Ni_begin_J45 N v0 σ
  else
    ck (inB v2 64) <|
    bS (sI σ (v0 + 2) (v2).toNatClampNeg 0) fun s10 =>
    bI (v2 + 1) fun x11 =>
    K23 v0 x11 s10
def Ni_begin_L23 (N : Nat) : Nat → Nat → Int32 → St → Option St
  | 0 => fun _ _ _ => none
  | n + 1 => fun v0 v2 σ => Ni_begin_L23B N (Ni_begin_L23 N n) v0 v2 σ
def Ni_begin_J21 (N : Nat) (v0 : Nat) (σ : St) : Option St :=
  Ni_begin_L23 N N v0 0 σ
def Ni_begin_L2B (N : Nat) (K2 : Nat → Int32 → Int32 → St → Option St) (v0 : Nat) (v1 : Int32) (v2 : Int32) (σ : St) : Option St :=
  if 8 ≤ v2 then
    Ni_begin_J21 N v0 σ
  else
    ck (inB v2 8) <|
    bS (sI σ (v0 + 1) (v2).toNatClampNeg v1) fun s13 =>
    bI (v2 + 1) fun x14 =>
    K2 v0 v1 x14 s13
def Ni_begin_L2 (N : Nat) : Nat → Nat → Int32 → Int32 → St → Option St
  | 0 => fun _ _ _ _ => none
  | n + 1 => fun v0 v1 v2 σ => Ni_begin_L2B N (Ni_begin_L2 N n) v0 v1 v2 σ
def Ni_begin (N : Nat) (v0 : Nat) (v1 : Int32) (σ : St) : Option St :=
  Ni_begin_L2 N N v0 v1 0 σ
def Ro_take (N : Nat) (v0 : Nat) (v1 : Nat) (σ : St) : Option St :=
  bS (sI σ v0 0 (σ.1 v1 0)) fun s1 =>
  bS (sI s1 v0 1 (s1.1 v1 1)) fun s2 =>
  some s2
def Ta_take (N : Nat) (v0 : Nat) (v1 : Nat) (σ : St) : Option St :=
  ck (inC 0 0 (Int32.ofNat (lnn (v0 + 1))) (lnn (v1 + 1)) (lnn (v0 + 1))) <|
  bS (sR σ (v0 + 1) (va_cpy (σ.1 (v1 + 1)) (σ.1 (v0 + 1)) (0 : Int32).toNatClampNeg (0 : Int32).toNatClampNeg ((Int32.ofNat (lnn (v0 + 1)))).toNatClampNeg)) fun s2 =>
  bS (sI s2 v0 3 (s2.1 v1 3)) fun s3 =>
  some s3
def Pa_take (N : Nat) (v0 : Nat) (v1 : Nat) (σ : St) : Option St :=
  ck (inC 0 0 128 128 128) <|
  bS (sR σ (v0 + 1) (va_cpy (σ.1 (v1 + 1)) (σ.1 (v0 + 1)) (0 : Int32).toNatClampNeg (0 : Int32).toNatClampNeg (128 : Int32).toNatClampNeg)) fun s2 =>
  bS (sI s2 v0 1 (s2.1 v1 1)) fun s3 =>
  some s3
def Ni_take_J89 (N : Nat) (v0 : Nat) (v1 : Nat) (σ : St) : Option St :=
  bS (sI σ v0 4 (σ.1 v1 4)) fun s7 =>
  bS (sI s7 v0 5 (s7.1 v1 5)) fun s8 =>
  bR (Ta_take N (v0 + 5) (v1 + 5) s8) fun s10 =>
  bR (Ta_take N (v0 + 7) (v1 + 7) s10) fun s14 =>
  bR (Ta_take N (v0 + 9) (v1 + 9) s14) fun s18 =>
  bR (Pa_take N (v0 + 11) (v1 + 11) s18) fun s22 =>
  some s22
def Ni_take_L63B (N : Nat) (K63 : Nat → Nat → Int32 → St → Option St) (v0 : Nat) (v1 : Nat) (v2 : Int32) (σ : St) : Option St :=
  if 4 ≤ v2 then
    Ni_take_J89 N v0 v1 σ
  else
    ck (inB v2 4) <|
    ck (inB v2 4) <|
    bR (Gu_take N (v0 + 16 + (v2).toNatClampNeg) (v1 + 16 + (v2).toNatClampNeg) σ) fun s28 =>
    bI (v2 + 1) fun x31 =>
    K63 v0 v1 x31 s28
def Ni_take_L63 (N : Nat) : Nat → Nat → Nat → Int32 → St → Option St
  | 0 => fun _ _ _ _ => none
  | n + 1 => fun v0 v1 v2 σ => Ni_take_L63B N (Ni_take_L63 N n) v0 v1 v2 σ
def Ni_take_J61 (N : Nat) (v0 : Nat) (v1 : Nat) (σ : St) : Option St :=
  Ni_take_L63 N N v0 v1 0 σ
def Ni_take_L35B (N : Nat) (K35 : Nat → Nat → Int32 → St → Option St) (v0 : Nat) (v1 : Nat) (v2 : Int32) (σ : St) : Option St :=
  if 3 ≤ v2 then
    Ni_take_J61 N v0 v1 σ
  else
    ck (inB v2 3) <|
    ck (inB v2 3) <|
    bR (Ro_take N (v0 + 13 + (v2).toNatClampNeg) (v1 + 13 + (v2).toNatClampNeg) σ) fun s35 =>
    bI (v2 + 1) fun x38 =>
    K35 v0 v1 x38 s35
def Ni_take_L35 (N : Nat) : Nat → Nat → Nat → Int32 → St → Option St
  | 0 => fun _ _ _ _ => none
  | n + 1 => fun v0 v1 v2 σ => Ni_take_L35B N (Ni_take_L35 N n) v0 v1 v2 σ
def Ni_take (N : Nat) (v0 : Nat) (v1 : Nat) (σ : St) : Option St :=
  ck (inC 0 0 8 8 8) <|
  bS (sR σ (v0 + 1) (va_cpy (σ.1 (v1 + 1)) (σ.1 (v0 + 1)) (0 : Int32).toNatClampNeg (0 : Int32).toNatClampNeg (8 : Int32).toNatClampNeg)) fun s2 =>
  ck (inC 0 0 64 64 64) <|
  bS (sR s2 (v0 + 2) (va_cpy (s2.1 (v1 + 2)) (s2.1 (v0 + 2)) (0 : Int32).toNatClampNeg (0 : Int32).toNatClampNeg (64 : Int32).toNatClampNeg)) fun s4 =>
  Ni_take_L35 N N v0 v1 0 s4
def Ni_dig (N : Nat) (v0 : Nat) (v1 : Int32) (v2 : Int32) (v3 : Int32) (σ : St) : Option St :=
  ck (inB ((v1 * 8) + v2) 64) <|
  bS (sI σ (v0 + 2) (((v1 * 8) + v2)).toNatClampNeg v3) fun s2 =>
  ck (inB ((v2 * 8) + v1) 64) <|
  bS (sI s2 (v0 + 2) (((v2 * 8) + v1)).toNatClampNeg v3) fun s4 =>
  some s4
def Ni_addRower (N : Nat) (v0 : Nat) (v1 : Int32) (v2 : Int32) (σ : St) : Option St :=
  if 3 ≤ (σ.1 v0 4) then
    some σ
  else
    ck (inB (σ.1 v0 4) 3) <|
    bS (sI σ (v0 + 13 + ((σ.1 v0 4)).toNatClampNeg) 0 v1) fun s3 =>
    ck (inB (s3.1 v0 4) 3) <|
    bS (sI s3 (v0 + 13 + ((s3.1 v0 4)).toNatClampNeg) 1 v2) fun s5 =>
    bS (sI s5 v0 4 ((s5.1 v0 4) + 1)) fun s6 =>
    some s6
def Ni_addGuest (N : Nat) (v0 : Nat) (v1 : Int32) (v2 : Int32) (σ : St) : Option St :=
  if 4 ≤ (σ.1 v0 5) then
    some σ
  else
    ck (inB (σ.1 v0 5) 4) <|
    bR (Gu_come N (v0 + 16 + ((σ.1 v0 5)).toNatClampNeg) v1 v2 σ) fun s4 =>
    bS (sI s4 v0 5 ((s4.1 v0 5) + 1)) fun s7 =>
    some s7
def Ni_canRow (N : Nat) (v0 : Nat) (v1 : Nat) (v2 : Int32) (σ : St) : Option Int32 :=
  if (σ.1 v1 4) = 7 then
    some 0
  else
    bR (Ni_strokesBetween N v0 (σ.1 v1 4) v2 σ) fun r2 =>
    if r2 ≤ 0 then
      some 0
    else
      some 1
def Ni_pass_J51 (N : Nat) (v4 : Nat) (σ : St) : Option St :=
  if (σ.1 v4 4) = 7 then
    bR (Gu_getIn N v4 σ) fun s6 =>
    some s6
  else
    some σ
def Ni_pass (N : Nat) (v0 : Nat) (v1 : Int32) (v2 : Int32) (v3 : Int32) (σ : St) : Option St :=
  if v1 < (σ.1 v0 5) then
    ck (inB v1 4) <|
    if (σ.1 v0 4) ≤ v2 then
      Ni_pass_J51 N (v0 + 16 + (v1).toNatClampNeg) σ
    else
      bR (Ni_canRow N v0 (v0 + 16 + (v1).toNatClampNeg) v3 σ) fun r9 =>
      if r9 = 0 then
        Ni_pass_J51 N (v0 + 16 + (v1).toNatClampNeg) σ
      else
        ck (inB v2 3) <|
        bR (Ni_carry N v0 (v0 + 16 + (v1).toNatClampNeg) (v0 + 13 + (v2).toNatClampNeg) v3 σ) fun s15 =>
        some s15
  else
    some σ
def Ni_neighbours_J25 (N : Nat) (K4 : Nat → Int32 → Int32 → Int32 → St → Option Int32) (v0 : Nat) (v1 : Int32) (v2 : Int32) (v3 : Int32) (σ : St) : Option Int32 :=
  bI (v3 + 1) fun x6 =>
  K4 v0 v1 v2 x6 σ
def Ni_neighbours_L4B (N : Nat) (K4 : Nat → Int32 → Int32 → Int32 → St → Option Int32) (v0 : Nat) (v1 : Int32) (v2 : Int32) (v3 : Int32) (σ : St) : Option Int32 :=
  if 8 ≤ v3 then
    some v2
  else
    bR (Ni_strokesBetween N v0 v1 v3 σ) fun r2 =>
    if r2 ≤ 0 then
      Ni_neighbours_J25 N K4 v0 v1 v2 v3 σ
    else
      bI ((v2 ||| (1 <<< (v3 &&& 31)))) fun x7 =>
      Ni_neighbours_J25 N K4 v0 v1 x7 v3 σ
def Ni_neighbours_L4 (N : Nat) : Nat → Nat → Int32 → Int32 → Int32 → St → Option Int32
  | 0 => fun _ _ _ _ _ => none
  | n + 1 => fun v0 v1 v2 v3 σ => Ni_neighbours_L4B N (Ni_neighbours_L4 N n) v0 v1 v2 v3 σ
def Ni_neighbours (N : Nat) (v0 : Nat) (v1 : Int32) (σ : St) : Option Int32 :=
  Ni_neighbours_L4 N N v0 v1 0 0 σ
def Ni_guestsAt_J31 (N : Nat) (K4 : Nat → Int32 → Int32 → Int32 → St → Option Int32) (v0 : Nat) (v1 : Int32) (v2 : Int32) (v3 : Int32) (σ : St) : Option Int32 :=
  bI (v3 + 1) fun x4 =>
  K4 v0 v1 v2 x4 σ
def Ni_guestsAt_L4B (N : Nat) (K4 : Nat → Int32 → Int32 → Int32 → St → Option Int32) (v0 : Nat) (v1 : Int32) (v2 : Int32) (v3 : Int32) (σ : St) : Option Int32 :=
  if (σ.1 v0 5) ≤ v3 then
    some v2
  else
    ck (inB v3 4) <|
    if (σ.1 (v0 + 16 + (v3).toNatClampNeg) 4) = v1 then
      bI ((v2 ||| (1 <<< (v3 &&& 31)))) fun x5 =>
      Ni_guestsAt_J31 N K4 v0 v1 x5 v3 σ
    else
      Ni_guestsAt_J31 N K4 v0 v1 v2 v3 σ
def Ni_guestsAt_L4 (N : Nat) : Nat → Nat → Int32 → Int32 → Int32 → St → Option Int32
  | 0 => fun _ _ _ _ _ => none
  | n + 1 => fun v0 v1 v2 v3 σ => Ni_guestsAt_L4B N (Ni_guestsAt_L4 N n) v0 v1 v2 v3 σ
def Ni_guestsAt (N : Nat) (v0 : Nat) (v1 : Int32) (σ : St) : Option Int32 :=
  Ni_guestsAt_L4 N N v0 v1 0 0 σ
def Ni_toldBits_J30 (N : Nat) (K4 : Nat → Int32 → Int32 → St → Option Int32) (v0 : Nat) (v1 : Int32) (v2 : Int32) (σ : St) : Option Int32 :=
  bI (v2 + 1) fun x7 =>
  K4 v0 v1 x7 σ
def Ni_toldBits_L4B (N : Nat) (K4 : Nat → Int32 → Int32 → St → Option Int32) (v0 : Nat) (v1 : Int32) (v2 : Int32) (σ : St) : Option Int32 :=
  if (σ.1 v0 5) ≤ v2 then
    some v1
  else
    ck (inB v2 4) <|
    bR (Gu_isTold N (v0 + 16 + (v2).toNatClampNeg) σ) fun r3 =>
    if r3 = 0 then
      Ni_toldBits_J30 N K4 v0 v1 v2 σ
    else
      bI ((v1 ||| (1 <<< (v2 &&& 31)))) fun x8 =>
      Ni_toldBits_J30 N K4 v0 x8 v2 σ
def Ni_toldBits_L4 (N : Nat) : Nat → Nat → Int32 → Int32 → St → Option Int32
  | 0 => fun _ _ _ _ => none
  | n + 1 => fun v0 v1 v2 σ => Ni_toldBits_L4B N (Ni_toldBits_L4 N n) v0 v1 v2 σ
def Ni_toldBits (N : Nat) (v0 : Nat) (σ : St) : Option Int32 :=
  Ni_toldBits_L4 N N v0 0 0 σ
def Jn_bitCount  (v0 : Int32) : Int32 :=
  ((((((((v0 - (((v0).toUInt32 >>> ((1 : Int32).toUInt32 &&& Int32.toUInt32 31)).toInt32 &&& 1431655765)) &&& 858993459) + ((((v0 - (((v0).toUInt32 >>> ((1 : Int32).toUInt32 &&& Int32.toUInt32 31)).toInt32 &&& 1431655765))).toUInt32 >>> ((2 : Int32).toUInt32 &&& Int32.toUInt32 31)).toInt32 &&& 858993459)) + (((((v0 - (((v0).toUInt32 >>> ((1 : Int32).toUInt32 &&& Int32.toUInt32 31)).toInt32 &&& 1431655765)) &&& 858993459) + ((((v0 - (((v0).toUInt32 >>> ((1 : Int32).toUInt32 &&& Int32.toUInt32 31)).toInt32 &&& 1431655765))).toUInt32 >>> ((2 : Int32).toUInt32 &&& Int32.toUInt32 31)).toInt32 &&& 858993459))).toUInt32 >>> ((4 : Int32).toUInt32 &&& Int32.toUInt32 31)).toInt32) &&& 252645135) + (((((((v0 - (((v0).toUInt32 >>> ((1 : Int32).toUInt32 &&& Int32.toUInt32 31)).toInt32 &&& 1431655765)) &&& 858993459) + ((((v0 - (((v0).toUInt32 >>> ((1 : Int32).toUInt32 &&& Int32.toUInt32 31)).toInt32 &&& 1431655765))).toUInt32 >>> ((2 : Int32).toUInt32 &&& Int32.toUInt32 31)).toInt32 &&& 858993459)) + (((((v0 - (((v0).toUInt32 >>> ((1 : Int32).toUInt32 &&& Int32.toUInt32 31)).toInt32 &&& 1431655765)) &&& 858993459) + ((((v0 - (((v0).toUInt32 >>> ((1 : Int32).toUInt32 &&& Int32.toUInt32 31)).toInt32 &&& 1431655765))).toUInt32 >>> ((2 : Int32).toUInt32 &&& Int32.toUInt32 31)).toInt32 &&& 858993459))).toUInt32 >>> ((4 : Int32).toUInt32 &&& Int32.toUInt32 31)).toInt32) &&& 252645135)).toUInt32 >>> ((8 : Int32).toUInt32 &&& Int32.toUInt32 31)).toInt32) + ((((((((v0 - (((v0).toUInt32 >>> ((1 : Int32).toUInt32 &&& Int32.toUInt32 31)).toInt32 &&& 1431655765)) &&& 858993459) + ((((v0 - (((v0).toUInt32 >>> ((1 : Int32).toUInt32 &&& Int32.toUInt32 31)).toInt32 &&& 1431655765))).toUInt32 >>> ((2 : Int32).toUInt32 &&& Int32.toUInt32 31)).toInt32 &&& 858993459)) + (((((v0 - (((v0).toUInt32 >>> ((1 : Int32).toUInt32 &&& Int32.toUInt32 31)).toInt32 &&& 1431655765)) &&& 858993459) + ((((v0 - (((v0).toUInt32 >>> ((1 : Int32).toUInt32 &&& Int32.toUInt32 31)).toInt32 &&& 1431655765))).toUInt32 >>> ((2 : Int32).toUInt32 &&& Int32.toUInt32 31)).toInt32 &&& 858993459))).toUInt32 >>> ((4 : Int32).toUInt32 &&& Int32.toUInt32 31)).toInt32) &&& 252645135) + (((((((v0 - (((v0).toUInt32 >>> ((1 : Int32).toUInt32 &&& Int32.toUInt32 31)).toInt32 &&& 1431655765)) &&& 858993459) + ((((v0 - (((v0).toUInt32 >>> ((1 : Int32).toUInt32 &&& Int32.toUInt32 31)).toInt32 &&& 1431655765))).toUInt32 >>> ((2 : Int32).toUInt32 &&& Int32.toUInt32 31)).toInt32 &&& 858993459)) + (((((v0 - (((v0).toUInt32 >>> ((1 : Int32).toUInt32 &&& Int32.toUInt32 31)).toInt32 &&& 1431655765)) &&& 858993459) + ((((v0 - (((v0).toUInt32 >>> ((1 : Int32).toUInt32 &&& Int32.toUInt32 31)).toInt32 &&& 1431655765))).toUInt32 >>> ((2 : Int32).toUInt32 &&& Int32.toUInt32 31)).toInt32 &&& 858993459))).toUInt32 >>> ((4 : Int32).toUInt32 &&& Int32.toUInt32 31)).toInt32) &&& 252645135)).toUInt32 >>> ((8 : Int32).toUInt32 &&& Int32.toUInt32 31)).toInt32)).toUInt32 >>> ((16 : Int32).toUInt32 &&& Int32.toUInt32 31)).toInt32) &&& 63)
def Ni_canalCount_J27 (N : Nat) (v1 : Int32) (σ : St) : Option Int32 :=
  some (v1 / 2)
def Ni_canalCount_L4B (N : Nat) (K4 : Nat → Int32 → Int32 → St → Option Int32) (v0 : Nat) (v1 : Int32) (v2 : Int32) (σ : St) : Option Int32 :=
  if 8 ≤ v2 then
    Ni_canalCount_J27 N v1 σ
  else
    bR (Ni_neighbours N v0 v2 σ) fun r2 =>
    bI ((v1 + (Jn_bitCount r2))) fun x8 =>
    bI (v2 + 1) fun x9 =>
    K4 v0 x8 x9 σ
def Ni_canalCount_L4 (N : Nat) : Nat → Nat → Int32 → Int32 → St → Option Int32
  | 0 => fun _ _ _ _ => none
  | n + 1 => fun v0 v1 v2 σ => Ni_canalCount_L4B N (Ni_canalCount_L4 N n) v0 v1 v2 σ
def Ni_canalCount (N : Nat) (v0 : Nat) (σ : St) : Option Int32 :=
  Ni_canalCount_L4 N N v0 0 0 σ
def Ni_sum_L4B (N : Nat) (K4 : Nat → Int32 → Int32 → Int32 → St → Option Int32) (v0 : Nat) (v1 : Int32) (v2 : Int32) (v3 : Int32) (σ : St) : Option Int32 :=
  if (σ.1 v0 5) ≤ v3 then
    some v2
  else
    ck (inB v3 4) <|
    bR (Gu_fact N (v0 + 16 + (v3).toNatClampNeg) v1 σ) fun r3 =>
    bI ((v2 + r3)) fun x6 =>
    bI (v3 + 1) fun x7 =>
    K4 v0 v1 x6 x7 σ
def Ni_sum_L4 (N : Nat) : Nat → Nat → Int32 → Int32 → Int32 → St → Option Int32
  | 0 => fun _ _ _ _ _ => none
  | n + 1 => fun v0 v1 v2 v3 σ => Ni_sum_L4B N (Ni_sum_L4 N n) v0 v1 v2 v3 σ
def Ni_sum (N : Nat) (v0 : Nat) (v1 : Int32) (σ : St) : Option Int32 :=
  Ni_sum_L4 N N v0 v1 0 0 σ
def Ni_shorten_J57 (N : Nat) (K10 : Nat → Int32 → Nat → Int32 → St → Option St) (v0 : Nat) (v1 : Int32) (v2 : Nat) (v3 : Int32) (σ : St) : Option St :=
  bI (v3 + 1) fun x8 =>
  K10 v0 v1 v2 x8 σ
def Ni_shorten_J48 (N : Nat) (K10 : Nat → Int32 → Nat → Int32 → St → Option St) (v0 : Nat) (v1 : Int32) (v2 : Nat) (v3 : Int32) (v4 : Int32) (σ : St) : Option St :=
  ck (inB v1 (lnn v2)) <|
  ck (inB v3 (lnn v2)) <|
  bS (sI σ v2 (v3).toNatClampNeg ((σ.1 v2 (v1).toNatClampNeg) + v4)) fun s13 =>
  Ni_shorten_J57 N K10 v0 v1 v2 v3 s13
def Ni_shorten_L10B (N : Nat) (K10 : Nat → Int32 → Nat → Int32 → St → Option St) (v0 : Nat) (v1 : Int32) (v2 : Nat) (v3 : Int32) (σ : St) : Option St :=
  if 8 ≤ v3 then
    some σ
  else
    bR (Ni_strokesBetween N v0 v1 v3 σ) fun r4 =>
    if r4 ≤ 0 then
      Ni_shorten_J57 N K10 v0 v1 v2 v3 σ
    else
      ck (inB v3 (lnn v2)) <|
      if (σ.1 v2 (v3).toNatClampNeg) = (-1) then
        Ni_shorten_J48 N K10 v0 v1 v2 v3 r4 σ
      else
        ck (inB v1 (lnn v2)) <|
        ck (inB v3 (lnn v2)) <|
        if (σ.1 v2 (v3).toNatClampNeg) ≤ ((σ.1 v2 (v1).toNatClampNeg) + r4) then
          Ni_shorten_J57 N K10 v0 v1 v2 v3 σ
        else
          Ni_shorten_J48 N K10 v0 v1 v2 v3 r4 σ
def Ni_shorten_L10 (N : Nat) : Nat → Nat → Int32 → Nat → Int32 → St → Option St
  | 0 => fun _ _ _ _ _ => none
  | n + 1 => fun v0 v1 v2 v3 σ => Ni_shorten_L10B N (Ni_shorten_L10 N n) v0 v1 v2 v3 σ
def Ni_shorten (N : Nat) (v0 : Nat) (v1 : Int32) (v2 : Nat) (σ : St) : Option St :=
  ck (inB v1 (lnn v2)) <|
  if (σ.1 v2 (v1).toNatClampNeg) = (-1) then
    some σ
  else
    Ni_shorten_L10 N N v0 v1 v2 0 σ
def Ni_measureFrom_J53 (N : Nat) (K24 : Nat → Nat → Int32 → St → Option St) (v0 : Nat) (v2 : Nat) (v3 : Int32) (σ : St) : Option St :=
  bI (v3 + 1) fun x6 =>
  K24 v0 v2 x6 σ
def Ni_measureFrom_L33B (N : Nat) (K24 : Nat → Nat → Int32 → St → Option St) (K33 : Nat → Nat → Int32 → Int32 → St → Option St) (v0 : Nat) (v2 : Nat) (v3 : Int32) (v4 : Int32) (σ : St) : Option St :=
  if 8 ≤ v4 then
    Ni_measureFrom_J53 N K24 v0 v2 v3 σ
  else
    bR (Ni_shorten N v0 v4 v2 σ) fun s8 =>
    bI (v4 + 1) fun x11 =>
    K33 v0 v2 v3 x11 s8
def Ni_measureFrom_L33 (N : Nat) (K24 : Nat → Nat → Int32 → St → Option St) : Nat → Nat → Nat → Int32 → Int32 → St → Option St
  | 0 => fun _ _ _ _ _ => none
  | n + 1 => fun v0 v2 v3 v4 σ => Ni_measureFrom_L33B N K24 (Ni_measureFrom_L33 N K24 n) v0 v2 v3 v4 σ
def Ni_measureFrom_L24B (N : Nat) (K24 : Nat → Nat → Int32 → St → Option St) (v0 : Nat) (v2 : Nat) (v3 : Int32) (σ : St) : Option St :=
  if 8 ≤ v3 then
    some σ
  else
    Ni_measureFrom_L33 N K24 N v0 v2 v3 0 σ
def Ni_measureFrom_L24 (N : Nat) : Nat → Nat → Nat → Int32 → St → Option St
  | 0 => fun _ _ _ _ => none
  | n + 1 => fun v0 v2 v3 σ => Ni_measureFrom_L24B N (Ni_measureFrom_L24 N n) v0 v2 v3 σ
def Ni_measureFrom_J18 (N : Nat) (v0 : Nat) (v1 : Int32) (v2 : Nat) (σ : St) : Option St :=
  ck (inB v1 (lnn v2)) <|
  bS (sI σ v2 (v1).toNatClampNeg 0) fun s3 =>
  Ni_measureFrom_L24 N N v0 v2 1 s3
def Ni_measureFrom_L2B (N : Nat) (K2 : Nat → Int32 → Nat → Int32 → St → Option St) (v0 : Nat) (v1 : Int32) (v2 : Nat) (v3 : Int32) (σ : St) : Option St :=
  if 8 ≤ v3 then
    Ni_measureFrom_J18 N v0 v1 v2 σ
  else
    ck (inB v3 (lnn v2)) <|
    bS (sI σ v2 (v3).toNatClampNeg (-1)) fun s13 =>
    bI (v3 + 1) fun x14 =>
    K2 v0 v1 v2 x14 s13
def Ni_measureFrom_L2 (N : Nat) : Nat → Nat → Int32 → Nat → Int32 → St → Option St
  | 0 => fun _ _ _ _ _ => none
  | n + 1 => fun v0 v1 v2 v3 σ => Ni_measureFrom_L2B N (Ni_measureFrom_L2 N n) v0 v1 v2 v3 σ
def Ni_measureFrom (N : Nat) (v0 : Nat) (v1 : Int32) (v2 : Nat) (σ : St) : Option St :=
  Ni_measureFrom_L2 N N v0 v1 v2 0 σ
def Ni_fold_J185 (N : Nat) (K141 : Nat → Int64 → Int32 → St → Option Int64) (v0 : Nat) (v3 : Int64) (v5 : Int32) (σ : St) : Option Int64 :=
  bI (v5 + 1) fun x6 =>
  K141 v0 v3 x6 σ
def Ni_fold_L153B (N : Nat) (K141 : Nat → Int64 → Int32 → St → Option Int64) (K153 : Nat → Int64 → Int32 → Int32 → St → Option Int64) (v0 : Nat) (v3 : Int64) (v5 : Int32) (v6 : Int32) (σ : St) : Option Int64 :=
  if 5 < v6 then
    Ni_fold_J185 N K141 v0 v3 v5 σ
  else
    ck (inB v5 4) <|
    bR (Gu_fact N (v0 + 16 + (v5).toNatClampNeg) v6 σ) fun r8 =>
    bL (((31 * v3) + ((r8).toInt64))) fun x11 =>
    bI (v6 + 1) fun x12 =>
    K153 v0 x11 v5 x12 σ
def Ni_fold_L153 (N : Nat) (K141 : Nat → Int64 → Int32 → St → Option Int64) : Nat → Nat → Int64 → Int32 → Int32 → St → Option Int64
  | 0 => fun _ _ _ _ _ => none
  | n + 1 => fun v0 v3 v5 v6 σ => Ni_fold_L153B N K141 (Ni_fold_L153 N K141 n) v0 v3 v5 v6 σ
def Ni_fold_L141B (N : Nat) (K141 : Nat → Int64 → Int32 → St → Option Int64) (v0 : Nat) (v3 : Int64) (v5 : Int32) (σ : St) : Option Int64 :=
  if (σ.1 v0 5) ≤ v5 then
    some v3
  else
    Ni_fold_L153 N K141 N v0 v3 v5 0 σ
def Ni_fold_L141 (N : Nat) : Nat → Nat → Int64 → Int32 → St → Option Int64
  | 0 => fun _ _ _ _ => none
  | n + 1 => fun v0 v3 v5 σ => Ni_fold_L141B N (Ni_fold_L141 N n) v0 v3 v5 σ
def Ni_fold_J138 (N : Nat) (v0 : Nat) (v3 : Int64) (σ : St) : Option Int64 :=
  Ni_fold_L141 N N v0 v3 0 σ
def Ni_fold_L87B (N : Nat) (K87 : Nat → Int64 → Int32 → St → Option Int64) (v0 : Nat) (v3 : Int64) (v5 : Int32) (σ : St) : Option Int64 :=
  if (σ.1 v0 4) ≤ v5 then
    Ni_fold_J138 N v0 v3 σ
  else
    ck (inB v5 3) <|
    bL (((31 * v3) + (((σ.1 (v0 + 13 + (v5).toNatClampNeg) 0)).toInt64))) fun x14 =>
    ck (inB v5 3) <|
    bL (((31 * x14) + (((σ.1 (v0 + 13 + (v5).toNatClampNeg) 1)).toInt64))) fun x16 =>
    bI (v5 + 1) fun x17 =>
    K87 v0 x16 x17 σ
def Ni_fold_L87 (N : Nat) : Nat → Nat → Int64 → Int32 → St → Option Int64
  | 0 => fun _ _ _ _ => none
  | n + 1 => fun v0 v3 v5 σ => Ni_fold_L87B N (Ni_fold_L87 N n) v0 v3 v5 σ
def Ni_fold_J84 (N : Nat) (v0 : Nat) (v3 : Int64) (σ : St) : Option Int64 :=
  Ni_fold_L87 N N v0 v3 0 σ
def Ni_fold_J78 (N : Nat) (K36 : Nat → Int64 → Int32 → St → Option Int64) (v0 : Nat) (v3 : Int64) (v5 : Int32) (σ : St) : Option Int64 :=
  bI (v5 + 1) fun x20 =>
  K36 v0 v3 x20 σ
def Ni_fold_L49B (N : Nat) (K36 : Nat → Int64 → Int32 → St → Option Int64) (K49 : Nat → Int64 → Int32 → Int32 → St → Option Int64) (v0 : Nat) (v3 : Int64) (v5 : Int32) (v6 : Int32) (σ : St) : Option Int64 :=
  if 8 ≤ v6 then
    Ni_fold_J78 N K36 v0 v3 v5 σ
  else
    bR (Ni_strokesBetween N v0 v5 v6 σ) fun r21 =>
    bL (((31 * v3) + ((r21).toInt64))) fun x24 =>
    bI (v6 + 1) fun x25 =>
    K49 v0 x24 v5 x25 σ
def Ni_fold_L49 (N : Nat) (K36 : Nat → Int64 → Int32 → St → Option Int64) : Nat → Nat → Int64 → Int32 → Int32 → St → Option Int64
  | 0 => fun _ _ _ _ _ => none
  | n + 1 => fun v0 v3 v5 v6 σ => Ni_fold_L49B N K36 (Ni_fold_L49 N K36 n) v0 v3 v5 v6 σ
def Ni_fold_L36B (N : Nat) (K36 : Nat → Int64 → Int32 → St → Option Int64) (v0 : Nat) (v3 : Int64) (v5 : Int32) (σ : St) : Option Int64 :=
  if 7 ≤ v5 then
    Ni_fold_J84 N v0 v3 σ
  else
    bI ((v5 + 1)) fun x18 =>
    Ni_fold_L49 N K36 N v0 v3 v5 x18 σ
def Ni_fold_L36 (N : Nat) : Nat → Nat → Int64 → Int32 → St → Option Int64
  | 0 => fun _ _ _ _ => none
  | n + 1 => fun v0 v3 v5 σ => Ni_fold_L36B N (Ni_fold_L36 N n) v0 v3 v5 σ
def Ni_fold_J33 (N : Nat) (v0 : Nat) (v3 : Int64) (σ : St) : Option Int64 :=
  Ni_fold_L36 N N v0 v3 0 σ
def Ni_fold_L5B (N : Nat) (K5 : Nat → Int64 → Int32 → St → Option Int64) (v0 : Nat) (v3 : Int64) (v5 : Int32) (σ : St) : Option Int64 :=
  if 8 ≤ v5 then
    Ni_fold_J33 N v0 v3 σ
  else
    ck (inB v5 8) <|
    bL (((31 * v3) + (((σ.1 (v0 + 1) (v5).toNatClampNeg)).toInt64))) fun x27 =>
    bI (v5 + 1) fun x28 =>
    K5 v0 x27 x28 σ
def Ni_fold_L5 (N : Nat) : Nat → Nat → Int64 → Int32 → St → Option Int64
  | 0 => fun _ _ _ _ => none
  | n + 1 => fun v0 v3 v5 σ => Ni_fold_L5B N (Ni_fold_L5 N n) v0 v3 v5 σ
def Ni_fold (N : Nat) (v0 : Nat) (v1 : Int64) (σ : St) : Option Int64 :=
  Ni_fold_L5 N N v0 v1 0 σ
def Pa_keep_J120 (N : Nat) (v0 : Nat) (σ : St) : Option St :=
  bS (sI σ v0 1 ((σ.1 v0 1) + 1)) fun s3 =>
  some s3
def Pa_keep_L39B (N : Nat) (K39 : Nat → Nat → Int32 → St → Option St) (v0 : Nat) (v1 : Nat) (v2 : Int32) (σ : St) : Option St :=
  if 4 ≤ v2 then
    Pa_keep_J120 N v0 σ
  else
    bI ((((σ.1 v0 1) * 16) + (v2 * 4))) fun x4 =>
    ck (inB v2 4) <|
    ck (inB x4 128) <|
    bS (sI σ (v0 + 1) (x4).toNatClampNeg (σ.1 (v1 + 16 + (v2).toNatClampNeg) 2)) fun s7 =>
    ck (inB (x4 + 1) 128) <|
    bS (sI s7 (v0 + 1) ((x4 + 1)).toNatClampNeg (s7.1 (v1 + 16 + (v2).toNatClampNeg) 3)) fun s9 =>
    ck (inB (x4 + 2) 128) <|
    bS (sI s9 (v0 + 1) ((x4 + 2)).toNatClampNeg (s9.1 (v1 + 16 + (v2).toNatClampNeg) 4)) fun s11 =>
    ck (inB (x4 + 3) 128) <|
    bS (sI s11 (v0 + 1) ((x4 + 3)).toNatClampNeg (s11.1 (v1 + 16 + (v2).toNatClampNeg) 5)) fun s13 =>
    bI (v2 + 1) fun x14 =>
    K39 v0 v1 x14 s13
def Pa_keep_L39 (N : Nat) : Nat → Nat → Nat → Int32 → St → Option St
  | 0 => fun _ _ _ _ => none
  | n + 1 => fun v0 v1 v2 σ => Pa_keep_L39B N (Pa_keep_L39 N n) v0 v1 v2 σ
def Pa_keep_J37 (N : Nat) (v0 : Nat) (v1 : Nat) (σ : St) : Option St :=
  Pa_keep_L39 N N v0 v1 0 σ
def Pa_keep (N : Nat) (v0 : Nat) (v1 : Nat) (σ : St) : Option St :=
  if (σ.1 v0 1) < 8 then
    Pa_keep_J37 N v0 v1 σ
  else
    ck (inC 16 0 (128 - 16) 128 128) <|
    bS (sR σ (v0 + 1) (va_cpy (σ.1 (v0 + 1)) (σ.1 (v0 + 1)) (16 : Int32).toNatClampNeg (0 : Int32).toNatClampNeg ((128 - 16) : Int32).toNatClampNeg)) fun s16 =>
    bS (sI s16 v0 1 7) fun s17 =>
    Pa_keep_J37 N v0 v1 s17
def Pa_giveBack_L20B (N : Nat) (K20 : Nat → Nat → Int32 → St → Option St) (v0 : Nat) (v1 : Nat) (v2 : Int32) (σ : St) : Option St :=
  if 4 ≤ v2 then
    some σ
  else
    bI ((((σ.1 v0 1) * 16) + (v2 * 4))) fun x4 =>
    ck (inB v2 4) <|
    ck (inB x4 128) <|
    bS (sI σ (v1 + 16 + (v2).toNatClampNeg) 2 (σ.1 (v0 + 1) (x4).toNatClampNeg)) fun s7 =>
    ck (inB (x4 + 1) 128) <|
    bS (sI s7 (v1 + 16 + (v2).toNatClampNeg) 3 (s7.1 (v0 + 1) ((x4 + 1)).toNatClampNeg)) fun s9 =>
    ck (inB (x4 + 2) 128) <|
    bS (sI s9 (v1 + 16 + (v2).toNatClampNeg) 4 (s9.1 (v0 + 1) ((x4 + 2)).toNatClampNeg)) fun s11 =>
    ck (inB (x4 + 3) 128) <|
    bS (sI s11 (v1 + 16 + (v2).toNatClampNeg) 5 (s11.1 (v0 + 1) ((x4 + 3)).toNatClampNeg)) fun s13 =>
    bI (v2 + 1) fun x14 =>
    K20 v0 v1 x14 s13
def Pa_giveBack_L20 (N : Nat) : Nat → Nat → Nat → Int32 → St → Option St
  | 0 => fun _ _ _ _ => none
  | n + 1 => fun v0 v1 v2 σ => Pa_giveBack_L20B N (Pa_giveBack_L20 N n) v0 v1 v2 σ
def Pa_giveBack (N : Nat) (v0 : Nat) (v1 : Nat) (σ : St) : Option St :=
  if 0 < (σ.1 v0 1) then
    bS (sI σ v0 1 ((σ.1 v0 1) - 1)) fun s2 =>
    Pa_giveBack_L20 N N v0 v1 0 s2
  else
    some σ
def Go_within  (v0 : Int32) (v1 : Int32) (v2 : Int32) : Int32 :=
  if v0 < v1 then
    0
  else
    if v2 < v0 then
      0
    else
      1
def Re_isLetter  (v0 : Int32) : Int32 :=
  (Go_within v0 97 122)
def Re_isFigure  (v0 : Int32) : Int32 :=
  (Go_within v0 48 57)
def Re_takeNumber_J93 (N : Nat) (w1 : Int32) (σ : St) : Option St :=
  bS (sI σ 71 4 w1) fun s4 =>
  some s4
def Re_takeNumber_J74 (N : Nat) (σ : St) : Option St :=
  if 2 < ((σ.1 71 2) - (σ.1 71 3)) then
    Re_takeNumber_J93 N 4 σ
  else
    Re_takeNumber_J93 N 2 σ
def Re_takeNumber_L5B (N : Nat) (K5 : St → Option St) (σ : St) : Option St :=
  if (σ.1 71 1) ≤ (σ.1 71 2) then
    Re_takeNumber_J74 N σ
  else
    ck (inB (σ.1 71 2) 150) <|
    if (Re_isFigure (σ.1 72 ((σ.1 71 2)).toNatClampNeg)) = 0 then
      Re_takeNumber_J74 N σ
    else
      ck (inB (σ.1 71 2) 150) <|
      bS (sI σ 71 5 (mnI 1000 (((10 * (σ.1 71 5)) + (σ.1 72 ((σ.1 71 2)).toNatClampNeg)) - 48))) fun s11 =>
      bS (sI s11 71 2 ((s11.1 71 2) + 1)) fun s12 =>
      K5 s12
def Re_takeNumber_L5 (N : Nat) : Nat → St → Option St
  | 0 => fun _ => none
  | n + 1 => fun  σ => Re_takeNumber_L5B N (Re_takeNumber_L5 N n) σ
def Re_takeNumber (N : Nat) (σ : St) : Option St :=
  bS (sI σ 71 5 0) fun s1 =>
  Re_takeNumber_L5 N N s1
def Re_advance_L117B (N : Nat) (K117 : St → Option St) (σ : St) : Option St :=
  if (σ.1 71 1) ≤ (σ.1 71 2) then
    some σ
  else
    ck (inB (σ.1 71 2) 150) <|
    if (Re_isLetter (σ.1 72 ((σ.1 71 2)).toNatClampNeg)) = 0 then
      some σ
    else
      bS (sI σ 71 2 ((σ.1 71 2) + 1)) fun s28 =>
      K117 s28
def Re_advance_L117 (N : Nat) : Nat → St → Option St
  | 0 => fun _ => none
  | n + 1 => fun  σ => Re_advance_L117B N (Re_advance_L117 N n) σ
def Re_advance_J38 (N : Nat) (σ : St) : Option St :=
  bS (sI σ 71 3 (σ.1 71 2)) fun s2 =>
  if (s2.1 71 2) < (s2.1 71 1) then
    ck (inB (s2.1 71 2) 150) <|
    if (s2.1 72 ((s2.1 71 2)).toNatClampNeg) = 59 then
      bS (sI s2 71 4 3) fun s29 =>
      bS (sI s29 71 2 ((s29.1 71 2) + 1)) fun s30 =>
      some s30
    else
      ck (inB (s2.1 71 2) 150) <|
      if (Re_isLetter (s2.1 72 ((s2.1 71 2)).toNatClampNeg)) = 0 then
        ck (inB (s2.1 71 2) 150) <|
        if (Re_isFigure (s2.1 72 ((s2.1 71 2)).toNatClampNeg)) = 0 then
          bS (sI s2 71 4 4) fun s16 =>
          some s16
        else
          bR (Re_takeNumber N s2) fun s18 =>
          some s18
      else
        bS (sI s2 71 4 1) fun s21 =>
        Re_advance_L117 N N s21
  else
    bS (sI s2 71 4 0) fun s31 =>
    some s31
def Re_advance_L0B (N : Nat) (K0 : St → Option St) (σ : St) : Option St :=
  if (σ.1 71 1) ≤ (σ.1 71 2) then
    Re_advance_J38 N σ
  else
    ck (inB (σ.1 71 2) 150) <|
    if (σ.1 72 ((σ.1 71 2)).toNatClampNeg) = 32 then
      bS (sI σ 71 2 ((σ.1 71 2) + 1)) fun s34 =>
      K0 s34
    else
      Re_advance_J38 N σ
def Re_advance_L0 (N : Nat) : Nat → St → Option St
  | 0 => fun _ => none
  | n + 1 => fun  σ => Re_advance_L0B N (Re_advance_L0 N n) σ
def Re_advance (N : Nat) (σ : St) : Option St :=
  Re_advance_L0 N N σ
def Re_isWord_L20B (N : Nat) (K20 : Nat → Int32 → St → Option Int32) (v1 : Nat) (v2 : Int32) (σ : St) : Option Int32 :=
  if (Int32.ofNat (slen.getD v1 0)) ≤ v2 then
    some 1
  else
    ck (inB ((σ.1 71 3) + v2) 150) <|
    ck (inB v2 (slen.getD v1 0)) <|
    if (σ.1 72 (((σ.1 71 3) + v2)).toNatClampNeg) = ((sbyt.getD v1 []).getD (v2).toNatClampNeg 0) then
      bI (v2 + 1) fun x6 =>
      K20 v1 x6 σ
    else
      some 0
def Re_isWord_L20 (N : Nat) : Nat → Nat → Int32 → St → Option Int32
  | 0 => fun _ _ _ => none
  | n + 1 => fun v1 v2 σ => Re_isWord_L20B N (Re_isWord_L20 N n) v1 v2 σ
def Re_isWord (N : Nat) (v1 : Nat) (σ : St) : Option Int32 :=
  if ((σ.1 71 2) - (σ.1 71 3)) = (Int32.ofNat (slen.getD v1 0)) then
    Re_isWord_L20 N N v1 0 σ
  else
    some 0
def Re_wordAtHand (N : Nat) (σ : St) : Option Int32 :=
  if (σ.1 71 4) = 1 then
    bR (Re_isWord N 0 σ) fun r2 =>
    if r2 = 0 then
      bR (Re_isWord N 1 σ) fun r6 =>
      if r6 = 0 then
        bR (Re_isWord N 2 σ) fun r10 =>
        if r10 = 0 then
          bR (Re_isWord N 3 σ) fun r14 =>
          if r14 = 0 then
            bR (Re_isWord N 4 σ) fun r18 =>
            if r18 = 0 then
              bR (Re_isWord N 5 σ) fun r22 =>
              if r22 = 0 then
                some (-1)
              else
                some 5
            else
              some 4
          else
            some 3
        else
          some 2
      else
        some 1
    else
      some 0
  else
    some (-1)
def Re_isOneTooMany_J26 (N : Nat) (σ : St) : Option Int32 :=
  some 1
def Re_isOneTooMany_J13 (N : Nat) (v0 : Nat) (v1 : Int32) (σ : St) : Option Int32 :=
  if v1 = 4 then
    if (σ.1 v0 5) < 4 then
      some 0
    else
      Re_isOneTooMany_J26 N σ
  else
    some 0
def Re_isOneTooMany (N : Nat) (v0 : Nat) (v1 : Int32) (σ : St) : Option Int32 :=
  if v1 = 3 then
    if 3 ≤ (σ.1 v0 4) then
      Re_isOneTooMany_J26 N σ
    else
      Re_isOneTooMany_J13 N v0 v1 σ
  else
    Re_isOneTooMany_J13 N v0 v1 σ
def Re_fitsCanal_J46 (N : Nat) (σ : St) : Option Int32 :=
  some 1
def Re_fitsCanal (N : Nat) (v1 : Int32) (σ : St) : Option Int32 :=
  if v1 = 2 then
    if 9 < (σ.1 71 5) then
      some 0
    else
      some 1
  else
    if 8 ≤ (σ.1 71 5) then
      some 0
    else
      if v1 = 0 then
        Re_fitsCanal_J46 N σ
      else
        if (σ.1 71 5) = (σ.1 73 (0 : Int32).toNatClampNeg) then
          some 0
        else
          Re_fitsCanal_J46 N σ
def Re_fitsRow (N : Nat) (v1 : Nat) (v2 : Int32) (σ : St) : Option Int32 :=
  if v2 = 0 then
    if (σ.1 v1 5) ≤ (σ.1 71 5) then
      some 0
    else
      some 1
  else
    if v2 = 1 then
      if (σ.1 v1 4) ≤ (σ.1 71 5) then
        some 0
      else
        some 1
    else
      if 8 ≤ (σ.1 71 5) then
        some 0
      else
        ck (inB (σ.1 73 (0 : Int32).toNatClampNeg) 4) <|
        bR (Ni_canRow N v1 (v1 + 16 + ((σ.1 73 (0 : Int32).toNatClampNeg)).toNatClampNeg) (σ.1 71 5) σ) fun r7 =>
        if r7 = 0 then
          some 0
        else
          some 1
def Re_fits (N : Nat) (v1 : Nat) (v2 : Int32) (v3 : Int32) (σ : St) : Option Int32 :=
  if v2 = 0 then
    if 9 < (σ.1 71 5) then
      some 0
    else
      some 1
  else
    if v2 = 1 then
      if v3 = 0 then
        if 8 ≤ (σ.1 71 5) then
          some 0
        else
          some 1
      else
        if 9 < (σ.1 71 5) then
          some 0
        else
          some 1
    else
      if v2 = 2 then
        bR (Re_fitsCanal N v3 σ) fun r8 =>
        some r8
      else
        if v2 = 3 then
          if v3 = 0 then
            if 5 < (σ.1 71 5) then
              some 0
            else
              some 1
          else
            if 9 < (σ.1 71 5) then
              some 0
            else
              some 1
        else
          if v2 = 4 then
            if v3 = 0 then
              if 5 < (σ.1 71 5) then
                some 0
              else
                some 1
            else
              some (Go_within (σ.1 71 5) 1 40)
          else
            bR (Re_fitsRow N v1 v3 σ) fun r21 =>
            some r21
def Re_apply (N : Nat) (v1 : Nat) (v2 : Int32) (σ : St) : Option St :=
  if v2 = 0 then
    bR (Ni_begin N v1 (σ.1 73 (0 : Int32).toNatClampNeg) σ) fun s3 =>
    some s3
  else
    if v2 = 1 then
      ck (inB (σ.1 73 (0 : Int32).toNatClampNeg) 8) <|
      bS (sI σ (v1 + 1) ((σ.1 73 (0 : Int32).toNatClampNeg)).toNatClampNeg (σ.1 73 (1 : Int32).toNatClampNeg)) fun s8 =>
      some s8
    else
      if v2 = 2 then
        bR (Ni_dig N v1 (σ.1 73 (0 : Int32).toNatClampNeg) (σ.1 73 (1 : Int32).toNatClampNeg) (σ.1 73 (2 : Int32).toNatClampNeg) σ) fun s11 =>
        some s11
      else
        if v2 = 3 then
          bR (Ni_addRower N v1 (σ.1 73 (0 : Int32).toNatClampNeg) (σ.1 73 (1 : Int32).toNatClampNeg) σ) fun s16 =>
          some s16
        else
          if v2 = 4 then
            bR (Ni_addGuest N v1 (σ.1 73 (0 : Int32).toNatClampNeg) (σ.1 73 (1 : Int32).toNatClampNeg) σ) fun s21 =>
            some s21
          else
            ck (inB (σ.1 73 (0 : Int32).toNatClampNeg) 4) <|
            ck (inB (σ.1 73 (1 : Int32).toNatClampNeg) 3) <|
            bR (Ni_carry N v1 (v1 + 16 + ((σ.1 73 (0 : Int32).toNatClampNeg)).toNatClampNeg) (v1 + 13 + ((σ.1 73 (1 : Int32).toNatClampNeg)).toNatClampNeg) (σ.1 73 (2 : Int32).toNatClampNeg) σ) fun s27 =>
            some s27
def Re_readItem_J92 (N : Nat) (v1 : Nat) (v3 : Int32) (σ : St) : Option (Int32 × St) :=
  if (σ.1 71 4) = 3 then
    bR (Re_advance N σ) fun s19 =>
    bR (Re_apply N v1 v3 s19) fun s23 =>
    some (1, s23)
  else
    some (0, σ)
def Re_readItem_L40B (N : Nat) (K40 : Nat → Int32 → Int32 → St → Option (Int32 × St)) (v1 : Nat) (v3 : Int32) (v4 : Int32) (σ : St) : Option (Int32 × St) :=
  ck (inB v3 6) <|
  if (nuL.getD (v3).toNatClampNeg 0) ≤ v4 then
    Re_readItem_J92 N v1 v3 σ
  else
    if (σ.1 71 4) = 2 then
      bR (Re_fits N v1 v3 v4 σ) fun r27 =>
      if r27 = 0 then
        some (0, σ)
      else
        ck (inB v4 3) <|
        bS (sI σ 73 (v4).toNatClampNeg (σ.1 71 5)) fun s32 =>
        bR (Re_advance N s32) fun s34 =>
        bI (v4 + 1) fun x37 =>
        K40 v1 v3 x37 s34
    else
      some (0, σ)
def Re_readItem_L40 (N : Nat) : Nat → Nat → Int32 → Int32 → St → Option (Int32 × St)
  | 0 => fun _ _ _ _ => none
  | n + 1 => fun v1 v3 v4 σ => Re_readItem_L40B N (Re_readItem_L40 N n) v1 v3 v4 σ
def Re_readItem_J20 (N : Nat) (v1 : Nat) (v3 : Int32) (w0 : Int32) (w1 : Int32) (σ : St) : Option (Int32 × St) :=
  if w0 = w1 then
    bR (Re_isOneTooMany N v1 v3 σ) fun r7 =>
    if r7 = 0 then
      bR (Re_advance N σ) fun s12 =>
      Re_readItem_L40 N N v1 v3 0 s12
    else
      some (0, σ)
  else
    some (0, σ)
def Re_readItem (N : Nat) (v1 : Nat) (v2 : Int32) (σ : St) : Option (Int32 × St) :=
  bR (Re_wordAtHand N σ) fun r1 =>
  if r1 = (-1) then
    some (0, σ)
  else
    if r1 = 0 then
      Re_readItem_J20 N v1 r1 v2 1 σ
    else
      Re_readItem_J20 N v1 r1 v2 0 σ
def Re_build_J84 (N : Nat) (K52 : Nat → Int32 → St → Option (Int32 × St)) (v1 : Nat) (v4 : Int32) (w1 : Nat) (w2 : Int32) (σ : St) : Option (Int32 × St) :=
  bW (Re_readItem N w1 w2 σ) fun r11 s12 =>
  if r11 = 0 then
    some ((-1), s12)
  else
    bI (v4 + 1) fun x16 =>
    K52 v1 x16 s12
def Re_build_J72 (N : Nat) (K52 : Nat → Int32 → St → Option (Int32 × St)) (v1 : Nat) (v4 : Int32) (σ : St) : Option (Int32 × St) :=
  if v4 = 0 then
    Re_build_J84 N K52 v1 v4 v1 1 σ
  else
    Re_build_J84 N K52 v1 v4 v1 0 σ
def Re_build_L52B (N : Nat) (K52 : Nat → Int32 → St → Option (Int32 × St)) (v1 : Nat) (v4 : Int32) (σ : St) : Option (Int32 × St) :=
  if 150 ≤ v4 then
    some (v4, σ)
  else
    if (σ.1 71 4) = 0 then
      if v4 = 0 then
        Re_build_J72 N K52 v1 v4 σ
      else
        some (v4, σ)
    else
      Re_build_J72 N K52 v1 v4 σ
def Re_build_L52 (N : Nat) : Nat → Nat → Int32 → St → Option (Int32 × St)
  | 0 => fun _ _ _ => none
  | n + 1 => fun v1 v4 σ => Re_build_L52B N (Re_build_L52 N n) v1 v4 σ
def Re_build_J40 (N : Nat) (v1 : Nat) (σ : St) : Option (Int32 × St) :=
  bS (sI σ 71 2 0) fun s3 =>
  bR (Re_advance N s3) fun s5 =>
  Re_build_L52 N N v1 0 s5
def Re_build_L14B (N : Nat) (K14 : Nat → Nat → Int32 → St → Option (Int32 × St)) (v1 : Nat) (v2 : Nat) (v4 : Int32) (σ : St) : Option (Int32 × St) :=
  if (σ.1 71 1) ≤ v4 then
    Re_build_J40 N v1 σ
  else
    ck (inB v4 (lnn v2)) <|
    ck (inB v4 150) <|
    bS (sI σ 72 (v4).toNatClampNeg (σ.1 v2 (v4).toNatClampNeg)) fun s20 =>
    bI (v4 + 1) fun x21 =>
    K14 v1 v2 x21 s20
def Re_build_L14 (N : Nat) : Nat → Nat → Nat → Int32 → St → Option (Int32 × St)
  | 0 => fun _ _ _ _ => none
  | n + 1 => fun v1 v2 v4 σ => Re_build_L14B N (Re_build_L14 N n) v1 v2 v4 σ
def Re_build (N : Nat) (v1 : Nat) (v2 : Nat) (v3 : Int32) (σ : St) : Option (Int32 × St) :=
  bS (sI σ 71 1 (mnI v3 150)) fun s1 =>
  Re_build_L14 N N v1 v2 0 s1
def Wy_isBetter (N : Nat) (v1 : Nat) (σ : St) : Option Int32 :=
  if (σ.1 v1 2) = (σ.1 47 3) then
    if (σ.1 v1 3) = (σ.1 47 4) then
      if (σ.1 47 5) ≤ (σ.1 v1 5) then
        some 0
      else
        some 1
    else
      if (σ.1 47 4) ≤ (σ.1 v1 3) then
        some 0
      else
        some 1
  else
    if (σ.1 v1 2) ≤ (σ.1 47 3) then
      some 0
    else
      some 1
def Wy_arrive_L81B (N : Nat) (K81 : Int32 → Int32 → St → Option St) (v2 : Int32) (v3 : Int32) (σ : St) : Option St :=
  if v2 ≤ v3 then
    some σ
  else
    ck (inB (v3 + 1) 8) <|
    ck (inB v3 8) <|
    bS (sI σ 49 (v3).toNatClampNeg (σ.1 (50 + ((v3 + 1)).toNatClampNeg) 4)) fun s13 =>
    bI (v3 + 1) fun x14 =>
    K81 v2 x14 s13
def Wy_arrive_L81 (N : Nat) : Nat → Int32 → Int32 → St → Option St
  | 0 => fun _ _ _ => none
  | n + 1 => fun v2 v3 σ => Wy_arrive_L81B N (Wy_arrive_L81 N n) v2 v3 σ
def Wy_arrive_J50 (N : Nat) (v1 : Nat) (v2 : Int32) (σ : St) : Option St :=
  bS (sI σ 47 2 v2) fun s6 =>
  bS (sI s6 47 3 (s6.1 v1 2)) fun s7 =>
  bS (sI s7 47 4 (s7.1 v1 3)) fun s8 =>
  bS (sI s8 47 5 (s8.1 v1 5)) fun s9 =>
  Wy_arrive_L81 N N v2 0 s9
def Wy_arrive_J34 (N : Nat) (v1 : Nat) (v2 : Int32) (σ : St) : Option St :=
  if (σ.1 47 2) = 0 then
    Wy_arrive_J50 N v1 v2 σ
  else
    bR (Wy_isBetter N v1 σ) fun r15 =>
    if r15 = 0 then
      some σ
    else
      Wy_arrive_J50 N v1 v2 σ
def Wy_arrive_J26 (N : Nat) (v1 : Nat) (v2 : Int32) (σ : St) : Option St :=
  bS (sI σ 47 6 (σ.1 v1 3)) fun s20 =>
  Wy_arrive_J34 N v1 v2 s20
def Wy_arrive (N : Nat) (v1 : Nat) (v2 : Int32) (σ : St) : Option St :=
  bR (Gu_isTold N v1 σ) fun r1 =>
  if r1 = 0 then
    Wy_arrive_J34 N v1 v2 σ
  else
    if (σ.1 47 6) = (-1) then
      Wy_arrive_J26 N v1 v2 σ
    else
      if (σ.1 47 6) ≤ (σ.1 v1 3) then
        Wy_arrive_J34 N v1 v2 σ
      else
        Wy_arrive_J26 N v1 v2 σ
def Wy_explore_J108 (N : Nat) (self : Nat → Nat → Int32 → Int32 → St → Option St) (K48 : Nat → Nat → Int32 → Int32 → Nat → Nat → Int32 → St → Option St) (v1 : Nat) (v2 : Nat) (v3 : Int32) (v4 : Int32) (v5 : Nat) (v6 : Nat) (v7 : Int32) (σ : St) : Option St :=
  bI (v7 + 1) fun x7 =>
  K48 v1 v2 v3 v4 v5 v6 x7 σ
def Wy_explore_L48B (N : Nat) (self : Nat → Nat → Int32 → Int32 → St → Option St) (K48 : Nat → Nat → Int32 → Int32 → Nat → Nat → Int32 → St → Option St) (v1 : Nat) (v2 : Nat) (v3 : Int32) (v4 : Int32) (v5 : Nat) (v6 : Nat) (v7 : Int32) (σ : St) : Option St :=
  if 8 ≤ v7 then
    some σ
  else
    if (v4 &&& (1 <<< (v7 &&& 31))) = 0 then
      bR (Ni_canRow N v1 v5 v7 σ) fun r8 =>
      if r8 = 0 then
        Wy_explore_J108 N self K48 v1 v2 v3 v4 v5 v6 v7 σ
      else
        bR (Gu_take N v6 v5 σ) fun s13 =>
        bR (Ni_carry N v1 v6 v2 v7 s13) fun s17 =>
        bR (self v1 v2 (v3 + 1) (v4 ||| (1 <<< (v7 &&& 31))) s17) fun s21 =>
        Wy_explore_J108 N self K48 v1 v2 v3 v4 v5 v6 v7 s21
    else
      Wy_explore_J108 N self K48 v1 v2 v3 v4 v5 v6 v7 σ
def Wy_explore_L48 (N : Nat) (self : Nat → Nat → Int32 → Int32 → St → Option St) : Nat → Nat → Nat → Int32 → Int32 → Nat → Nat → Int32 → St → Option St
  | 0 => fun _ _ _ _ _ _ _ _ => none
  | n + 1 => fun v1 v2 v3 v4 v5 v6 v7 σ => Wy_explore_L48B N self (Wy_explore_L48 N self n) v1 v2 v3 v4 v5 v6 v7 σ
def Wy_exploreB (N : Nat) (self : Nat → Nat → Int32 → Int32 → St → Option St) (v1 : Nat) (v2 : Nat) (v3 : Int32) (v4 : Int32) (σ : St) : Option St :=
  ck (inB v3 8) <|
  if (σ.1 (50 + (v3).toNatClampNeg) 4) = 7 then
    bR (Wy_arrive N (50 + (v3).toNatClampNeg) v3 σ) fun s25 =>
    some s25
  else
    if (v3 + 1) < 8 then
      ck (inB (v3 + 1) 8) <|
      Wy_explore_L48 N self N v1 v2 v3 v4 (50 + (v3).toNatClampNeg) (50 + ((v3 + 1)).toNatClampNeg) 0 σ
    else
      some σ
def Wy_explore (N : Nat) : Nat → Nat → Nat → Int32 → Int32 → St → Option St
  | 0 => fun _ _ _ _ _ => none
  | n + 1 => fun v1 v2 v3 v4 σ => Wy_exploreB N (Wy_explore N n) v1 v2 v3 v4 σ
def Wy_search (N : Nat) (v1 : Nat) (v2 : Nat) (v3 : Nat) (σ : St) : Option St :=
  bS (sI σ 47 2 0) fun s1 =>
  bS (sI s1 47 6 (-1)) fun s2 =>
  if (s2.1 v2 4) = 7 then
    some s2
  else
    bR (Gu_take N (50 + (0 : Int32).toNatClampNeg) v2 s2) fun s5 =>
    bR (Wy_explore N 10 v1 v3 0 (1 <<< ((s5.1 v2 4) &&& 31)) s5) fun s9 =>
    some s9
def Sh_settle_J36 (N : Nat) (v1 : Int32) (v2 : Int32) (w0 : Int32) (σ : St) : Option St :=
  if w0 = 0 then
    some σ
  else
    bS (sI σ 58 5 1) fun s3 =>
    bS (sI s3 58 6 v1) fun s4 =>
    bS (sI s4 58 7 v2) fun s5 =>
    ck (inC 0 0 4 4 4) <|
    bS (sR s5 63 (va_cpy (s5.1 62) (s5.1 63) (0 : Int32).toNatClampNeg (0 : Int32).toNatClampNeg (4 : Int32).toNatClampNeg)) fun s7 =>
    some s7
def Sh_settle_J31 (N : Nat) (v1 : Int32) (v2 : Int32) (σ : St) : Option St :=
  Sh_settle_J36 N v1 v2 1 σ
def Sh_settle_J35 (N : Nat) (v1 : Int32) (v2 : Int32) (σ : St) : Option St :=
  Sh_settle_J36 N v1 v2 0 σ
def Sh_settle (N : Nat) (v1 : Int32) (v2 : Int32) (σ : St) : Option St :=
  if (σ.1 58 5) = 0 then
    Sh_settle_J31 N v1 v2 σ
  else
    if (σ.1 58 6) < v1 then
      Sh_settle_J31 N v1 v2 σ
    else
      if v1 = (σ.1 58 6) then
        if (σ.1 58 7) ≤ v2 then
          Sh_settle_J35 N v1 v2 σ
        else
          Sh_settle_J31 N v1 v2 σ
      else
        Sh_settle_J35 N v1 v2 σ
def Sh_assign_J13 (N : Nat) (self : Nat → Int32 → Int32 → Int32 → St → Option St) (v3 : Int32) (v4 : Int32) (σ : St) : Option St :=
  bR (Sh_settle N v3 v4 σ) fun s3 =>
  some s3
def Sh_assign_J169 (N : Nat) (self : Nat → Int32 → Int32 → Int32 → St → Option St) (K73 : Nat → Int32 → Int32 → Int32 → Int32 → St → Option St) (v1 : Nat) (v2 : Int32) (v3 : Int32) (v4 : Int32) (v6 : Int32) (σ : St) : Option St :=
  bI (v6 + 1) fun x13 =>
  K73 v1 v2 v3 v4 x13 σ
def Sh_assign_L73B (N : Nat) (self : Nat → Int32 → Int32 → Int32 → St → Option St) (K73 : Nat → Int32 → Int32 → Int32 → Int32 → St → Option St) (v1 : Nat) (v2 : Int32) (v3 : Int32) (v4 : Int32) (v6 : Int32) (σ : St) : Option St :=
  if (σ.1 v1 4) ≤ v6 then
    some σ
  else
    bI (((v2 * 3) + v6)) fun x10 =>
    ck (inB v6 3) <|
    if 2 ≤ (σ.1 61 (v6).toNatClampNeg) then
      Sh_assign_J169 N self K73 v1 v2 v3 v4 v6 σ
    else
      ck (inB x10 12) <|
      if (σ.1 59 (x10).toNatClampNeg) = (-1) then
        Sh_assign_J169 N self K73 v1 v2 v3 v4 v6 σ
      else
        ck (inB v2 4) <|
        bS (sI σ 62 (v2).toNatClampNeg v6) fun s17 =>
        ck (inB v6 3) <|
        ck (inB v6 3) <|
        bS (sI s17 61 (v6).toNatClampNeg ((s17.1 61 (v6).toNatClampNeg) + 1)) fun s20 =>
        ck (inB x10 12) <|
        ck (inB x10 12) <|
        bR (self v1 (v2 + 1) (v3 + (s20.1 59 (x10).toNatClampNeg)) (v4 + (s20.1 60 (x10).toNatClampNeg)) s20) fun s24 =>
        ck (inB v6 3) <|
        ck (inB v6 3) <|
        bS (sI s24 61 (v6).toNatClampNeg ((s24.1 61 (v6).toNatClampNeg) - 1)) fun s29 =>
        Sh_assign_J169 N self K73 v1 v2 v3 v4 v6 s29
def Sh_assign_L73 (N : Nat) (self : Nat → Int32 → Int32 → Int32 → St → Option St) : Nat → Nat → Int32 → Int32 → Int32 → Int32 → St → Option St
  | 0 => fun _ _ _ _ _ _ => none
  | n + 1 => fun v1 v2 v3 v4 v6 σ => Sh_assign_L73B N self (Sh_assign_L73 N self n) v1 v2 v3 v4 v6 σ
def Sh_assignB (N : Nat) (self : Nat → Int32 → Int32 → Int32 → St → Option St) (v1 : Nat) (v2 : Int32) (v3 : Int32) (v4 : Int32) (σ : St) : Option St :=
  if (σ.1 v1 5) ≤ v2 then
    Sh_assign_J13 N self v3 v4 σ
  else
    if v2 < 4 then
      ck (inB v2 4) <|
      if (σ.1 (v1 + 16 + (v2).toNatClampNeg) 4) = 7 then
        ck (inB v2 4) <|
        bS (sI σ 62 (v2).toNatClampNeg (-1)) fun s31 =>
        bR (self v1 (v2 + 1) (v3 + (s31.1 (v1 + 16 + (v2).toNatClampNeg) 2)) (v4 + (s31.1 (v1 + 16 + (v2).toNatClampNeg) 3)) s31) fun s33 =>
        some s33
      else
        Sh_assign_L73 N self N v1 v2 v3 v4 0 σ
    else
      Sh_assign_J13 N self v3 v4 σ
def Sh_assign (N : Nat) : Nat → Nat → Int32 → Int32 → Int32 → St → Option St
  | 0 => fun _ _ _ _ _ => none
  | n + 1 => fun v1 v2 v3 v4 σ => Sh_assignB N (Sh_assign N n) v1 v2 v3 v4 σ
def Sh_search_J118 (N : Nat) (v1 : Nat) (σ : St) : Option St :=
  bR (Sh_assign N 10 v1 0 0 0 σ) fun s5 =>
  some s5
def Sh_search_J112 (N : Nat) (K27 : Nat → Int32 → St → Option St) (v1 : Nat) (v3 : Int32) (σ : St) : Option St :=
  bI (v3 + 1) fun x9 =>
  K27 v1 x9 σ
def Sh_search_J90 (N : Nat) (K27 : Nat → Int32 → St → Option St) (K38 : Nat → Int32 → Int32 → St → Option St) (v1 : Nat) (v3 : Int32) (v4 : Int32) (w1 : Int32) (w2 : Int32) (σ : St) : Option St :=
  ck (inB w1 12) <|
  bS (sI σ 59 (w1).toNatClampNeg w2) fun s18 =>
  ck (inB ((v3 * 3) + v4) 12) <|
  bS (sI s18 60 (((v3 * 3) + v4)).toNatClampNeg (s18.1 47 4)) fun s20 =>
  bI (v4 + 1) fun x21 =>
  K38 v1 v3 x21 s20
def Sh_search_L38B (N : Nat) (K27 : Nat → Int32 → St → Option St) (K38 : Nat → Int32 → Int32 → St → Option St) (v1 : Nat) (v3 : Int32) (v4 : Int32) (σ : St) : Option St :=
  if (σ.1 v1 4) ≤ v4 then
    Sh_search_J112 N K27 v1 v3 σ
  else
    ck (inB v3 4) <|
    ck (inB v4 3) <|
    bR (Wy_search N v1 (v1 + 16 + (v3).toNatClampNeg) (v1 + 13 + (v4).toNatClampNeg) σ) fun s13 =>
    if (s13.1 47 2) = 0 then
      Sh_search_J90 N K27 K38 v1 v3 v4 ((v3 * 3) + v4) (-1) s13
    else
      Sh_search_J90 N K27 K38 v1 v3 v4 ((v3 * 3) + v4) (s13.1 47 3) s13
def Sh_search_L38 (N : Nat) (K27 : Nat → Int32 → St → Option St) : Nat → Nat → Int32 → Int32 → St → Option St
  | 0 => fun _ _ _ _ => none
  | n + 1 => fun v1 v3 v4 σ => Sh_search_L38B N K27 (Sh_search_L38 N K27 n) v1 v3 v4 σ
def Sh_search_L27B (N : Nat) (K27 : Nat → Int32 → St → Option St) (v1 : Nat) (v3 : Int32) (σ : St) : Option St :=
  if (σ.1 v1 5) ≤ v3 then
    Sh_search_J118 N v1 σ
  else
    Sh_search_L38 N K27 N v1 v3 0 σ
def Sh_search_L27 (N : Nat) : Nat → Nat → Int32 → St → Option St
  | 0 => fun _ _ _ => none
  | n + 1 => fun v1 v3 σ => Sh_search_L27B N (Sh_search_L27 N n) v1 v3 σ
def Sh_search_J25 (N : Nat) (v1 : Nat) (σ : St) : Option St :=
  Sh_search_L27 N N v1 0 σ
def Sh_search_L7B (N : Nat) (K7 : Nat → Int32 → St → Option St) (v1 : Nat) (v3 : Int32) (σ : St) : Option St :=
  if 3 ≤ v3 then
    Sh_search_J25 N v1 σ
  else
    ck (inB v3 3) <|
    bS (sI σ 61 (v3).toNatClampNeg 0) fun s23 =>
    bI (v3 + 1) fun x24 =>
    K7 v1 x24 s23
def Sh_search_L7 (N : Nat) : Nat → Nat → Int32 → St → Option St
  | 0 => fun _ _ _ => none
  | n + 1 => fun v1 v3 σ => Sh_search_L7B N (Sh_search_L7 N n) v1 v3 σ
def Sh_search (N : Nat) (v1 : Nat) (σ : St) : Option St :=
  bS (sI σ 58 5 0) fun s1 =>
  Sh_search_L7 N N v1 0 s1
def Ta_isFull (N : Nat) (v0 : Nat) (σ : St) : Option Int32 :=
  if (σ.1 v0 3) < (σ.1 v0 1) then
    some 0
  else
    some 1
def Ta_put (N : Nat) (v0 : Nat) (v1 : Int32) (v2 : Int32) (σ : St) : Option St :=
  if (σ.1 v0 1) ≤ (σ.1 v0 3) then
    some σ
  else
    if (σ.1 v0 0) ≤ v1 then
      some σ
    else
      ck (inB (((σ.1 v0 3) * (σ.1 v0 0)) + v1) (lnn (v0 + 1))) <|
      bS (sI σ (v0 + 1) ((((σ.1 v0 3) * (σ.1 v0 0)) + v1)).toNatClampNeg v2) fun s4 =>
      some s4
def Ta_keep (N : Nat) (v0 : Nat) (σ : St) : Option (Int32 × St) :=
  bS (sI σ v0 3 ((σ.1 v0 3) + 1)) fun s1 =>
  some ((s1.1 v0 3), s1)
def Ta_fold_L5B (N : Nat) (K5 : Nat → Int64 → Int32 → St → Option Int64) (v0 : Nat) (v3 : Int64) (v5 : Int32) (σ : St) : Option Int64 :=
  if ((σ.1 v0 3) * (σ.1 v0 0)) ≤ v5 then
    some v3
  else
    ck (inB v5 (lnn (v0 + 1))) <|
    bL (((31 * v3) + (((σ.1 (v0 + 1) (v5).toNatClampNeg)).toInt64))) fun x3 =>
    bI (v5 + 1) fun x4 =>
    K5 v0 x3 x4 σ
def Ta_fold_L5 (N : Nat) : Nat → Nat → Int64 → Int32 → St → Option Int64
  | 0 => fun _ _ _ _ => none
  | n + 1 => fun v0 v3 v5 σ => Ta_fold_L5B N (Ta_fold_L5 N n) v0 v3 v5 σ
def Ta_fold (N : Nat) (v0 : Nat) (v1 : Int64) (σ : St) : Option Int64 :=
  Ta_fold_L5 N N v0 v1 0 σ
def Go_refuseBad (N : Nat) (σ : St) : Option (Int32 × St) :=
  bS (sI σ 44 (0 : Int32).toNatClampNeg ((σ.1 44 (0 : Int32).toNatClampNeg) + 1)) fun s1 =>
  some ((-2), s1)
def Go_water (N : Nat) (v1 : Int32) (σ : St) : Option (Int32 × St) :=
  if (Go_within v1 0 9) = 0 then
    bW (Go_refuseBad N σ) fun r10 s11 =>
    some (r10, s11)
  else
    bI ((σ.1 1 5)) fun x5 =>
    bR (Ni_begin N 1 v1 σ) fun s7 =>
    some (x5, s7)
def Go_isPlace  (v0 : Int32) : Int32 :=
  (Go_within v0 0 7)
def Go_dark_J17 (N : Nat) (σ : St) : Option (Int32 × St) :=
  bW (Go_refuseBad N σ) fun r5 s6 =>
  some (r5, s6)
def Go_dark (N : Nat) (v1 : Int32) (v2 : Int32) (σ : St) : Option (Int32 × St) :=
  if (Go_isPlace v1) = 0 then
    Go_dark_J17 N σ
  else
    if (Go_within v2 0 9) = 0 then
      Go_dark_J17 N σ
    else
      ck (inB v1 8) <|
      bI ((σ.1 2 (v1).toNatClampNeg)) fun x14 =>
      ck (inB v1 8) <|
      bS (sI σ 2 (v1).toNatClampNeg v2) fun s16 =>
      bS (sI s16 12 1 0) fun s17 =>
      some (x14, s17)
def Go_canal_J29 (N : Nat) (σ : St) : Option (Int32 × St) :=
  bW (Go_refuseBad N σ) fun r5 s6 =>
  some (r5, s6)
def Go_canal (N : Nat) (v1 : Int32) (v2 : Int32) (v3 : Int32) (σ : St) : Option (Int32 × St) :=
  if (Go_isPlace v1) = 0 then
    Go_canal_J29 N σ
  else
    if (Go_isPlace v2) = 0 then
      Go_canal_J29 N σ
    else
      if v1 = v2 then
        Go_canal_J29 N σ
      else
        if (Go_within v3 0 9) = 0 then
          Go_canal_J29 N σ
        else
          bR (Ni_strokesBetween N 1 v1 v2 σ) fun r18 =>
          bR (Ni_dig N 1 v1 v2 v3 σ) fun s22 =>
          bS (sI s22 12 1 0) fun s25 =>
          some (r18, s25)
def Go_refuseFull (N : Nat) (σ : St) : Option (Int32 × St) :=
  bS (sI σ 44 (2 : Int32).toNatClampNeg ((σ.1 44 (2 : Int32).toNatClampNeg) + 1)) fun s1 =>
  some ((-4), s1)
def Go_rower_J19 (N : Nat) (σ : St) : Option (Int32 × St) :=
  bW (Go_refuseBad N σ) fun r5 s6 =>
  some (r5, s6)
def Go_rower (N : Nat) (v1 : Int32) (v2 : Int32) (σ : St) : Option (Int32 × St) :=
  if (Go_within v1 0 5) = 0 then
    Go_rower_J19 N σ
  else
    if (Go_within v2 0 9) = 0 then
      Go_rower_J19 N σ
    else
      if (σ.1 1 4) < 3 then
        bR (Ni_addRower N 1 v1 v2 σ) fun s15 =>
        bS (sI s15 12 1 0) fun s18 =>
        some (((s18.1 1 4) - 1), s18)
      else
        bW (Go_refuseFull N σ) fun r19 s20 =>
        some (r19, s20)
def Go_guest_J19 (N : Nat) (σ : St) : Option (Int32 × St) :=
  bW (Go_refuseBad N σ) fun r5 s6 =>
  some (r5, s6)
def Go_guest (N : Nat) (v1 : Int32) (v2 : Int32) (σ : St) : Option (Int32 × St) :=
  if (Go_within v1 0 5) = 0 then
    Go_guest_J19 N σ
  else
    if (Go_within v2 1 40) = 0 then
      Go_guest_J19 N σ
    else
      if (σ.1 1 5) < 4 then
        bR (Ni_addGuest N 1 v1 v2 σ) fun s15 =>
        bS (sI s15 12 1 0) fun s18 =>
        some (((s18.1 1 5) - 1), s18)
      else
        bW (Go_refuseFull N σ) fun r19 s20 =>
        some (r19, s20)
def Go_type (N : Nat) (v1 : Int32) (σ : St) : Option (Int32 × St) :=
  if (Go_within v1 0 127) = 0 then
    bW (Go_refuseBad N σ) fun r13 s14 =>
    some (r13, s14)
  else
    if (σ.1 0 5) < 150 then
      ck (inB (σ.1 0 5) 150) <|
      bS (sI σ 43 ((σ.1 0 5)).toNatClampNeg (vp_nar .byte ((v1).toInt8.toInt32))) fun s7 =>
      bS (sI s7 0 5 ((s7.1 0 5) + 1)) fun s8 =>
      some ((s8.1 0 5), s8)
    else
      bW (Go_refuseFull N σ) fun r9 s10 =>
      some (r9, s10)
def Go_clear (N : Nat) (σ : St) : Option (Int32 × St) :=
  bI ((σ.1 0 5)) fun x1 =>
  bS (sI σ 0 5 0) fun s2 =>
  some (x1, s2)
def Go_read (N : Nat) (σ : St) : Option (Int32 × St) :=
  bW (Re_build N 21 43 (σ.1 0 5) σ) fun r1 s2 =>
  if 0 ≤ r1 then
    bR (Ni_take N 1 21 s2) fun s7 =>
    some (r1, s7)
  else
    some (((-10) - (s2.1 71 3)), s2)
def Go_isGuest (N : Nat) (v1 : Int32) (σ : St) : Option Int32 :=
  some (Go_within v1 0 ((σ.1 1 5) - 1))
def Go_isRower (N : Nat) (v1 : Int32) (σ : St) : Option Int32 :=
  some (Go_within v1 0 ((σ.1 1 4) - 1))
def Go_refuseNo (N : Nat) (σ : St) : Option (Int32 × St) :=
  bS (sI σ 44 (1 : Int32).toNatClampNeg ((σ.1 44 (1 : Int32).toNatClampNeg) + 1)) fun s1 =>
  some ((-3), s1)
def Go_rows_J23 (N : Nat) (σ : St) : Option (Int32 × St) :=
  bW (Go_refuseBad N σ) fun r5 s6 =>
  some (r5, s6)
def Go_rows (N : Nat) (v1 : Int32) (v2 : Int32) (v3 : Int32) (σ : St) : Option (Int32 × St) :=
  bR (Go_isGuest N v1 σ) fun r1 =>
  if r1 = 0 then
    Go_rows_J23 N σ
  else
    bR (Go_isRower N v2 σ) fun r9 =>
    if r9 = 0 then
      Go_rows_J23 N σ
    else
      if (Go_isPlace v3) = 0 then
        Go_rows_J23 N σ
      else
        ck (inB v1 4) <|
        bR (Ni_canRow N 1 (1 + 16 + (v1).toNatClampNeg) v3 σ) fun r18 =>
        if r18 = 0 then
          bW (Go_refuseNo N σ) fun r31 s32 =>
          some (r31, s32)
        else
          bR (Pa_keep N 12 1 σ) fun s23 =>
          ck (inB v2 3) <|
          bR (Ni_carry N 1 (1 + 16 + (v1).toNatClampNeg) (1 + 13 + (v2).toNatClampNeg) v3 s23) fun s28 =>
          some ((s28.1 (1 + 16 + (v1).toNatClampNeg) 2), s28)
def Go_enters (N : Nat) (v1 : Int32) (σ : St) : Option (Int32 × St) :=
  bR (Go_isGuest N v1 σ) fun r1 =>
  if r1 = 0 then
    bW (Go_refuseBad N σ) fun r20 s21 =>
    some (r20, s21)
  else
    ck (inB v1 4) <|
    if (σ.1 (1 + 16 + (v1).toNatClampNeg) 4) = 0 then
      bW (Go_refuseNo N σ) fun r16 s17 =>
      some (r16, s17)
    else
      bI ((σ.1 (1 + 16 + (v1).toNatClampNeg) 4)) fun x7 =>
      bR (Pa_keep N 12 1 σ) fun s9 =>
      bR (Gu_getIn N (1 + 16 + (v1).toNatClampNeg) s9) fun s13 =>
      some (x7, s13)
def Go_undo (N : Nat) (σ : St) : Option (Int32 × St) :=
  if 0 < (σ.1 12 1) then
    bR (Pa_giveBack N 12 1 σ) fun s3 =>
    some ((s3.1 12 1), s3)
  else
    bW (Go_refuseNo N σ) fun r6 s7 =>
    some (r6, s7)
def Go_of_J17 (N : Nat) (σ : St) : Option (Int32 × St) :=
  bW (Go_refuseBad N σ) fun r5 s6 =>
  some (r5, s6)
def Go_of (N : Nat) (v1 : Int32) (v2 : Int32) (σ : St) : Option (Int32 × St) :=
  bR (Go_isGuest N v1 σ) fun r1 =>
  if r1 = 0 then
    Go_of_J17 N σ
  else
    if (Go_within v2 0 5) = 0 then
      Go_of_J17 N σ
    else
      ck (inB v1 4) <|
      bR (Gu_fact N (1 + 16 + (v1).toNatClampNeg) v2 σ) fun r14 =>
      some (r14, σ)
def Go_who_J17 (N : Nat) (σ : St) : Option (Int32 × St) :=
  bW (Go_refuseBad N σ) fun r5 s6 =>
  some (r5, s6)
def Go_who (N : Nat) (v1 : Int32) (v2 : Int32) (σ : St) : Option (Int32 × St) :=
  bR (Go_isRower N v1 σ) fun r1 =>
  if r1 = 0 then
    Go_who_J17 N σ
  else
    if (Go_within v2 0 1) = 0 then
      Go_who_J17 N σ
    else
      ck (inB v1 3) <|
      if v2 = 0 then
        some ((σ.1 (1 + 13 + (v1).toNatClampNeg) 0), σ)
      else
        some ((σ.1 (1 + 13 + (v1).toNatClampNeg) 1), σ)
def Go_about_J16 (N : Nat) (σ : St) : Option (Int32 × St) :=
  bW (Go_refuseBad N σ) fun r5 s6 =>
  some (r5, s6)
def Go_about (N : Nat) (v1 : Int32) (v2 : Int32) (σ : St) : Option (Int32 × St) :=
  if (Go_isPlace v1) = 0 then
    Go_about_J16 N σ
  else
    if (Go_within v2 0 2) = 0 then
      Go_about_J16 N σ
    else
      if v2 = 0 then
        ck (inB v1 8) <|
        some ((σ.1 2 (v1).toNatClampNeg), σ)
      else
        if v2 = 1 then
          bR (Ni_neighbours N 1 v1 σ) fun r16 =>
          some (r16, σ)
        else
          bR (Ni_guestsAt N 1 v1 σ) fun r19 =>
          some (r19, σ)
def Go_strokes_J14 (N : Nat) (σ : St) : Option (Int32 × St) :=
  bW (Go_refuseBad N σ) fun r5 s6 =>
  some (r5, s6)
def Go_strokes (N : Nat) (v1 : Int32) (v2 : Int32) (σ : St) : Option (Int32 × St) :=
  if (Go_isPlace v1) = 0 then
    Go_strokes_J14 N σ
  else
    if (Go_isPlace v2) = 0 then
      Go_strokes_J14 N σ
    else
      bR (Ni_strokesBetween N 1 v1 v2 σ) fun r13 =>
      some (r13, σ)
def Go_far_J14 (N : Nat) (σ : St) : Option (Int32 × St) :=
  bW (Go_refuseBad N σ) fun r5 s6 =>
  some (r5, s6)
def Go_far (N : Nat) (v1 : Int32) (v2 : Int32) (σ : St) : Option (Int32 × St) :=
  if (Go_isPlace v1) = 0 then
    Go_far_J14 N σ
  else
    if (Go_isPlace v2) = 0 then
      Go_far_J14 N σ
    else
      bR (Ni_measureFrom N 1 v1 45 σ) fun s14 =>
      ck (inB v2 8) <|
      some ((s14.1 45 (v2).toNatClampNeg), s14)
def Go_would_J33 (N : Nat) (σ : St) : Option (Int32 × St) :=
  bW (Go_refuseBad N σ) fun r5 s6 =>
  some (r5, s6)
def Go_would (N : Nat) (v1 : Int32) (v2 : Int32) (v3 : Int32) (v4 : Int32) (σ : St) : Option (Int32 × St) :=
  bR (Go_isGuest N v1 σ) fun r1 =>
  if r1 = 0 then
    Go_would_J33 N σ
  else
    bR (Go_isRower N v2 σ) fun r9 =>
    if r9 = 0 then
      Go_would_J33 N σ
    else
      if (Go_isPlace v3) = 0 then
        Go_would_J33 N σ
      else
        if (Go_within v4 0 1) = 0 then
          Go_would_J33 N σ
        else
          ck (inB v1 4) <|
          bR (Ni_canRow N 1 (1 + 16 + (v1).toNatClampNeg) v3 σ) fun r22 =>
          if r22 = 0 then
            some ((-1), σ)
          else
            ck (inB v1 4) <|
            bR (Gu_take N 46 (1 + 16 + (v1).toNatClampNeg) σ) fun s28 =>
            ck (inB v2 3) <|
            bR (Ni_carry N 1 46 (1 + 13 + (v2).toNatClampNeg) v3 s28) fun s33 =>
            if v4 = 0 then
              some ((s33.1 46 2), s33)
            else
              some ((s33.1 46 3), s33)
def Go_refuseFarBad (N : Nat) (σ : St) : Option (Int32 × St) :=
  bS (sI σ 44 (0 : Int32).toNatClampNeg ((σ.1 44 (0 : Int32).toNatClampNeg) + 1)) fun s1 =>
  some ((-10), s1)
def Go_way_J22 (N : Nat) (σ : St) : Option (Int32 × St) :=
  bW (Go_refuseFarBad N σ) fun r5 s6 =>
  some (r5, s6)
def Go_way (N : Nat) (v1 : Int32) (v2 : Int32) (v3 : Int32) (σ : St) : Option (Int32 × St) :=
  bR (Go_isGuest N v1 σ) fun r1 =>
  if r1 = 0 then
    Go_way_J22 N σ
  else
    bR (Go_isRower N v2 σ) fun r9 =>
    if r9 = 0 then
      Go_way_J22 N σ
    else
      if (-4) ≤ v3 then
        ck (inB v1 4) <|
        ck (inB v2 3) <|
        bR (Wy_search N 1 (1 + 16 + (v1).toNatClampNeg) (1 + 13 + (v2).toNatClampNeg) σ) fun s17 =>
        if (s17.1 47 2) = 0 then
          some ((-1), s17)
        else
          if v3 = (-4) then
            some ((s17.1 47 3), s17)
          else
            if v3 = (-3) then
              some ((s17.1 47 4), s17)
            else
              if v3 = (-2) then
                some ((s17.1 47 5), s17)
              else
                if v3 = (-1) then
                  some ((s17.1 47 2), s17)
                else
                  if (s17.1 47 2) ≤ v3 then
                    some ((-5), s17)
                  else
                    ck (inB v3 8) <|
                    some ((s17.1 49 (v3).toNatClampNeg), s17)
      else
        Go_way_J22 N σ
def Go_gentle_J16 (N : Nat) (σ : St) : Option (Int32 × St) :=
  bW (Go_refuseBad N σ) fun r5 s6 =>
  some (r5, s6)
def Go_gentle (N : Nat) (v1 : Int32) (v2 : Int32) (σ : St) : Option (Int32 × St) :=
  bR (Go_isGuest N v1 σ) fun r1 =>
  if r1 = 0 then
    Go_gentle_J16 N σ
  else
    bR (Go_isRower N v2 σ) fun r9 =>
    if r9 = 0 then
      Go_gentle_J16 N σ
    else
      ck (inB v1 4) <|
      ck (inB v2 3) <|
      bR (Wy_search N 1 (1 + 16 + (v1).toNatClampNeg) (1 + 13 + (v2).toNatClampNeg) σ) fun s16 =>
      some ((s16.1 47 6), s16)
def Go_where_J16 (N : Nat) (σ : St) : Option (Int32 × St) :=
  bW (Go_refuseFarBad N σ) fun r5 s6 =>
  some (r5, s6)
def Go_where_L86B (N : Nat) (K86 : Int32 → Int32 → St → Option (Int32 × St)) (v2 : Int32) (v4 : Int32) (σ : St) : Option (Int32 × St) :=
  if (σ.1 47 2) ≤ v4 then
    some ((-1), σ)
  else
    ck (inB v2 3) <|
    ck (inB v4 8) <|
    bR (Ni_carry N 1 46 (1 + 13 + (v2).toNatClampNeg) (σ.1 49 (v4).toNatClampNeg) σ) fun s32 =>
    bR (Gu_isTold N 46 s32) fun r35 =>
    if r35 = 0 then
      bI (v4 + 1) fun x39 =>
      K86 v2 x39 s32
    else
      some (v4, s32)
def Go_where_L86 (N : Nat) : Nat → Int32 → Int32 → St → Option (Int32 × St)
  | 0 => fun _ _ _ => none
  | n + 1 => fun v2 v4 σ => Go_where_L86B N (Go_where_L86 N n) v2 v4 σ
def Go_where (N : Nat) (v1 : Int32) (v2 : Int32) (σ : St) : Option (Int32 × St) :=
  bR (Go_isGuest N v1 σ) fun r1 =>
  if r1 = 0 then
    Go_where_J16 N σ
  else
    bR (Go_isRower N v2 σ) fun r9 =>
    if r9 = 0 then
      Go_where_J16 N σ
    else
      ck (inB v1 4) <|
      bR (Gu_isTold N (1 + 16 + (v1).toNatClampNeg) σ) fun r14 =>
      if r14 = 0 then
        ck (inB v2 3) <|
        bR (Wy_search N 1 (1 + 16 + (v1).toNatClampNeg) (1 + 13 + (v2).toNatClampNeg) σ) fun s20 =>
        if (s20.1 47 2) = 0 then
          some ((-4), s20)
        else
          bR (Gu_take N 46 (1 + 16 + (v1).toNatClampNeg) s20) fun s25 =>
          Go_where_L86 N N v2 0 s25
      else
        some ((-3), σ)
def Go_share_J25 (N : Nat) (v1 : Int32) (σ : St) : Option (Int32 × St) :=
  bR (Sh_search N 1 σ) fun s3 =>
  if (s3.1 58 5) = 0 then
    some ((-5), s3)
  else
    if v1 = (-3) then
      some ((s3.1 58 6), s3)
    else
      if v1 = (-2) then
        some ((s3.1 58 7), s3)
      else
        ck (inB v1 4) <|
        some ((s3.1 63 (v1).toNatClampNeg), s3)
def Go_share (N : Nat) (v1 : Int32) (σ : St) : Option (Int32 × St) :=
  if v1 = (-3) then
    Go_share_J25 N v1 σ
  else
    if v1 = (-2) then
      Go_share_J25 N v1 σ
    else
      bR (Go_isGuest N v1 σ) fun r11 =>
      if r11 = 0 then
        bW (Go_refuseFarBad N σ) fun r15 s16 =>
        some (r15, s16)
      else
        Go_share_J25 N v1 σ
def Go_seen_J39 (N : Nat) (σ : St) : Option (Int32 × St) :=
  bW (Go_refuseBad N σ) fun r5 s6 =>
  some (r5, s6)
def Go_seen (N : Nat) (v1 : Int32) (v2 : Int32) (v3 : Int32) (v4 : Int32) (σ : St) : Option (Int32 × St) :=
  bR (Go_isRower N v1 σ) fun r1 =>
  if r1 = 0 then
    Go_seen_J39 N σ
  else
    if (Go_within v2 0 9) = 0 then
      Go_seen_J39 N σ
    else
      if (Go_within v3 0 99) = 0 then
        Go_seen_J39 N σ
      else
        if (Go_within v4 0 99) = 0 then
          Go_seen_J39 N σ
        else
          bR (Ta_isFull N 6 σ) fun r21 =>
          if r21 = 0 then
            bR (Ta_put N 6 0 v1 σ) fun s26 =>
            bR (Ta_put N 6 1 v2 s26) fun s30 =>
            bR (Ta_put N 6 2 v3 s30) fun s34 =>
            bR (Ta_put N 6 3 v4 s34) fun s38 =>
            bW (Ta_keep N 6 s38) fun r41 s42 =>
            some (r41, s42)
          else
            bW (Go_refuseFull N σ) fun r45 s46 =>
            some (r45, s46)
def Go_tongues (N : Nat) (v1 : Int32) (σ : St) : Option (Int32 × St) :=
  bR (Go_isRower N v1 σ) fun r1 =>
  if r1 = 0 then
    bW (Go_refuseBad N σ) fun r5 s6 =>
    some (r5, s6)
  else
    bR (Gs_tonguesLeft N 1 v1 σ) fun r9 =>
    some (r9, σ)
def Go_tell (N : Nat) (v1 : Int32) (σ : St) : Option (Int32 × St) :=
  bR (Go_isRower N v1 σ) fun r1 =>
  if r1 = 0 then
    bW (Go_refuseBad N σ) fun r5 s6 =>
    some (r5, s6)
  else
    bW (Gs_bestTelling N 1 v1 σ) fun r9 s10 =>
    some (r9, s10)
def Go_note_J38 (N : Nat) (σ : St) : Option (Int32 × St) :=
  bW (Go_refuseBad N σ) fun r5 s6 =>
  some (r5, s6)
def Go_note_J65 (N : Nat) (σ : St) : Option (Int32 × St) :=
  bW (Go_refuseBad N σ) fun r25 s26 =>
  some (r25, s26)
def Go_note (N : Nat) (v1 : Int32) (v2 : Int32) (v3 : Int32) (v4 : Int32) (v5 : Int32) (v6 : Int32) (σ : St) : Option (Int32 × St) :=
  bR (Go_isGuest N v1 σ) fun r1 =>
  if r1 = 0 then
    Go_note_J38 N σ
  else
    if (Go_within v2 1 40) = 0 then
      Go_note_J38 N σ
    else
      if (Go_within v3 0 v2) = 0 then
        Go_note_J38 N σ
      else
        if (Go_within v4 0 20) = 0 then
          Go_note_J38 N σ
        else
          if (Go_within v5 0 9) = 0 then
            Go_note_J65 N σ
          else
            if (Go_within v6 0 60) = 0 then
              Go_note_J65 N σ
            else
              bR (Ta_isFull N 8 σ) fun r33 =>
              if r33 = 0 then
                bR (Ta_put N 8 0 v1 σ) fun s38 =>
                bR (Ta_put N 8 1 v2 s38) fun s42 =>
                bR (Ta_put N 8 2 v3 s42) fun s46 =>
                bR (Ta_put N 8 3 v4 s46) fun s50 =>
                bR (Ta_put N 8 4 v5 s50) fun s54 =>
                bR (Ta_put N 8 5 v6 s54) fun s58 =>
                bW (Ta_keep N 8 s58) fun r61 s62 =>
                some (r61, s62)
              else
                bW (Go_refuseFull N σ) fun r65 s66 =>
                some (r65, s66)
def Go_mark_J28 (N : Nat) (σ : St) : Option (Int32 × St) :=
  bW (Go_refuseBad N σ) fun r5 s6 =>
  some (r5, s6)
def Go_mark_J55 (N : Nat) (σ : St) : Option (Int32 × St) :=
  bW (Go_refuseBad N σ) fun r21 s22 =>
  some (r21, s22)
def Go_mark (N : Nat) (v1 : Int32) (v2 : Int32) (v3 : Int32) (v4 : Int32) (v5 : Int32) (σ : St) : Option (Int32 × St) :=
  bR (Go_isRower N v1 σ) fun r1 =>
  if r1 = 0 then
    Go_mark_J28 N σ
  else
    if (Go_within v2 0 9) = 0 then
      Go_mark_J28 N σ
    else
      if (Go_within v3 0 9) = 0 then
        Go_mark_J28 N σ
      else
        if (Go_within v4 0 99) = 0 then
          Go_mark_J55 N σ
        else
          if (Go_within v5 0 99) = 0 then
            Go_mark_J55 N σ
          else
            bR (Ta_isFull N 10 σ) fun r29 =>
            if r29 = 0 then
              bR (Ta_put N 10 0 v1 σ) fun s34 =>
              bR (Ta_put N 10 1 v2 s34) fun s38 =>
              bR (Ta_put N 10 2 v3 s38) fun s42 =>
              bR (Ta_put N 10 3 v4 s42) fun s46 =>
              bR (Ta_put N 10 4 v5 s46) fun s50 =>
              bW (Ta_keep N 10 s50) fun r53 s54 =>
              some (r53, s54)
            else
              bW (Go_refuseFull N σ) fun r57 s58 =>
              some (r57, s58)
def Go_forget_J50 (N : Nat) (w0 : Nat) (σ : St) : Option (Int32 × St) :=
  bI ((σ.1 w0 3)) fun x7 =>
  bS (sI σ w0 3 0) fun s8 =>
  some (x7, s8)
def Go_forget (N : Nat) (v1 : Int32) (σ : St) : Option (Int32 × St) :=
  if (Go_within v1 0 2) = 0 then
    bW (Go_refuseBad N σ) fun r9 s10 =>
    some (r9, s10)
  else
    if v1 = 0 then
      Go_forget_J50 N 6 σ
    else
      if v1 = 1 then
        Go_forget_J50 N 8 σ
      else
        Go_forget_J50 N 10 σ
def Go_is (N : Nat) (v1 : Int32) (σ : St) : Option (Int32 × St) :=
  bR (Go_isGuest N v1 σ) fun r1 =>
  if r1 = 0 then
    bW (Go_refuseBad N σ) fun r5 s6 =>
    some (r5, s6)
  else
    bR (Gs_guestKindsLeft N 1 v1 σ) fun r9 =>
    some (r9, σ)
def Go_look (N : Nat) (v1 : Int32) (σ : St) : Option (Int32 × St) :=
  bR (Go_isGuest N v1 σ) fun r1 =>
  if r1 = 0 then
    bW (Go_refuseBad N σ) fun r5 s6 =>
    some (r5, s6)
  else
    bW (Gs_bestLook N 1 v1 σ) fun r9 s10 =>
    some (r9, s10)
def Go_kinds (N : Nat) (v1 : Int32) (σ : St) : Option (Int32 × St) :=
  bR (Go_isRower N v1 σ) fun r1 =>
  if r1 = 0 then
    bW (Go_refuseBad N σ) fun r5 s6 =>
    some (r5, s6)
  else
    bR (Gs_rowerKindsLeft N 1 v1 σ) fun r9 =>
    some (r9, σ)
def Go_ask (N : Nat) (v1 : Int32) (σ : St) : Option (Int32 × St) :=
  bR (Go_isRower N v1 σ) fun r1 =>
  if r1 = 0 then
    bW (Go_refuseBad N σ) fun r5 s6 =>
    some (r5, s6)
  else
    bW (Gs_bestAsking N 1 v1 σ) fun r9 s10 =>
    some (r9, s10)
def Go_lamp_J21 (N : Nat) (σ : St) : Option (Int32 × St) :=
  bW (Go_refuseFarBad N σ) fun r5 s6 =>
  some (r5, s6)
def Go_lamp (N : Nat) (v1 : Int32) (v2 : Int32) (v3 : Int32) (σ : St) : Option (Int32 × St) :=
  bR (Go_isGuest N v1 σ) fun r1 =>
  if r1 = 0 then
    Go_lamp_J21 N σ
  else
    bR (Go_isRower N v2 σ) fun r9 =>
    if r9 = 0 then
      Go_lamp_J21 N σ
    else
      if (-1) ≤ v3 then
        ck (inB v1 4) <|
        ck (inB v2 3) <|
        bR (La_search N (1 + 16 + (v1).toNatClampNeg) (1 + 13 + (v2).toNatClampNeg) σ) fun s17 =>
        if v3 = (-1) then
          some ((s17.1 66 2), s17)
        else
          if (s17.1 66 2) ≤ v3 then
            some ((-5), s17)
          else
            ck (inB v3 16) <|
            some ((s17.1 68 (v3).toNatClampNeg), s17)
      else
        Go_lamp_J21 N σ
def Go_odds_J37 (N : Nat) (σ : St) : Option (Int32 × St) :=
  bW (Go_refuseBad N σ) fun r5 s6 =>
  some (r5, s6)
def Go_odds (N : Nat) (v1 : Int32) (v2 : Int32) (v3 : Int32) (v4 : Int32) (σ : St) : Option (Int32 × St) :=
  bR (Go_isGuest N v1 σ) fun r1 =>
  if r1 = 0 then
    Go_odds_J37 N σ
  else
    bR (Go_isRower N v2 σ) fun r9 =>
    if r9 = 0 then
      Go_odds_J37 N σ
    else
      if (Go_within v3 0 40) = 0 then
        Go_odds_J37 N σ
      else
        if (Go_within v4 0 10) = 0 then
          Go_odds_J37 N σ
        else
          ck (inB v1 4) <|
          ck (inB v2 3) <|
          bR (Wy_search N 1 (1 + 16 + (v1).toNatClampNeg) (1 + 13 + (v2).toNatClampNeg) σ) fun s24 =>
          if (s24.1 47 2) = 0 then
            bW (Go_refuseNo N s24) fun r34 s35 =>
            some (r34, s35)
          else
            ck (inB v1 4) <|
            ck (inB v2 3) <|
            bR (He_chance N 1 (1 + 16 + (v1).toNatClampNeg) (1 + 13 + (v2).toNatClampNeg) v3 v4 s24) fun s31 =>
            some (1, s31)
def Go_mean_J26 (N : Nat) (σ : St) : Option (Int32 × St) :=
  bW (Go_refuseBad N σ) fun r5 s6 =>
  some (r5, s6)
def Go_mean (N : Nat) (v1 : Int32) (v2 : Int32) (v3 : Int32) (σ : St) : Option (Int32 × St) :=
  bR (Go_isGuest N v1 σ) fun r1 =>
  if r1 = 0 then
    Go_mean_J26 N σ
  else
    bR (Go_isRower N v2 σ) fun r9 =>
    if r9 = 0 then
      Go_mean_J26 N σ
    else
      if (Go_within v3 0 10) = 0 then
        Go_mean_J26 N σ
      else
        ck (inB v1 4) <|
        ck (inB v2 3) <|
        bR (Wy_search N 1 (1 + 16 + (v1).toNatClampNeg) (1 + 13 + (v2).toNatClampNeg) σ) fun s20 =>
        if (s20.1 47 2) = 0 then
          bW (Go_refuseNo N s20) fun r30 s31 =>
          some (r30, s31)
        else
          ck (inB v1 4) <|
          ck (inB v2 3) <|
          bR (He_meanHurt N 1 (1 + 16 + (v1).toNatClampNeg) (1 + 13 + (v2).toNatClampNeg) v3 s20) fun s27 =>
          some (1, s27)
def Go_nights_J21 (N : Nat) (σ : St) : Option (Int32 × St) :=
  bW (Go_refuseBad N σ) fun r5 s6 =>
  some (r5, s6)
def Go_nights_J106 (N : Nat) (σ : St) : Option (Int32 × St) :=
  bR (Ni_toldBits N 21 σ) fun r19 =>
  some ((Jn_bitCount r19), σ)
def Go_nights_L43B (N : Nat) (K43 : Int32 → Int64 → Int32 → St → Option (Int32 × St)) (v2 : Int32) (v3 : Int64) (v5 : Int32) (σ : St) : Option (Int32 × St) :=
  if v2 ≤ v5 then
    Go_nights_J106 N σ
  else
    bL ((((v3 * 1103515245) + 12345) - ((v3 * 1103515245) + 12345) / 2147483648 * 2147483648)) fun x25 =>
    bR (Ni_pass N 21 ((((x25 / 65536) - (x25 / 65536) / 4 * 4)).toInt32) ((((x25 / 262144) - (x25 / 262144) / 3 * 3)).toInt32) ((((x25 / 1048576) - (x25 / 1048576) / 8 * 8)).toInt32) σ) fun s27 =>
    bI (v5 + 1) fun x30 =>
    K43 v2 x25 x30 s27
def Go_nights_L43 (N : Nat) : Nat → Int32 → Int64 → Int32 → St → Option (Int32 × St)
  | 0 => fun _ _ _ _ => none
  | n + 1 => fun v2 v3 v5 σ => Go_nights_L43B N (Go_nights_L43 N n) v2 v3 v5 σ
def Go_nights (N : Nat) (v1 : Int32) (v2 : Int32) (σ : St) : Option (Int32 × St) :=
  if (Go_within v1 0 999999) = 0 then
    Go_nights_J21 N σ
  else
    if (Go_within v2 0 60) = 0 then
      Go_nights_J21 N σ
    else
      bR (Ni_take N 21 1 σ) fun s14 =>
      bL (((v1).toInt64)) fun x17 =>
      Go_nights_L43 N N v2 x17 0 s14
def Go_part (N : Nat) (v1 : Int32) (σ : St) : Option (Int64 × St) :=
  if (Go_within v1 0 1) = 0 then
    bW (Go_refuseBad N σ) fun r6 s7 =>
    some (((r6).toInt64), s7)
  else
    if v1 = 0 then
      some ((σ.2 69 1), σ)
    else
      some ((σ.2 69 2), σ)
def Go_image (N : Nat) (v1 : Int32) (σ : St) : Option (Int32 × St) :=
  if (Go_within v1 0 1) = 0 then
    bW (Go_refuseBad N σ) fun r12 s13 =>
    some (r12, s13)
  else
    ck (inB v1 2) <|
    bR (Ni_take N (74 + 20 * (v1).toNatClampNeg) 1 σ) fun s7 =>
    ck (inB v1 2) <|
    bS (sI s7 42 (v1).toNatClampNeg (vp_nar .boolean 1)) fun s11 =>
    some (1, s11)
def Go_from (N : Nat) (v1 : Int32) (σ : St) : Option (Int32 × St) :=
  if (Go_within v1 0 1) = 0 then
    bW (Go_refuseBad N σ) fun r16 s17 =>
    some (r16, s17)
  else
    ck (inB v1 2) <|
    if (σ.1 42 (v1).toNatClampNeg) = 0 then
      bW (Go_refuseNo N σ) fun r12 s13 =>
      some (r12, s13)
    else
      ck (inB v1 2) <|
      bR (Ni_take N 1 (74 + 20 * (v1).toNatClampNeg) σ) fun s9 =>
      some (1, s9)
def Go_status (N : Nat) (v1 : Int32) (σ : St) : Option (Int32 × St) :=
  if (Go_within v1 0 2) = 0 then
    bW (Go_refuseBad N σ) fun r6 s7 =>
    some ((-1), s7)
  else
    ck (inB v1 3) <|
    some ((σ.1 44 (v1).toNatClampNeg), σ)
def Go_count (N : Nat) (v1 : Int32) (σ : St) : Option (Int32 × St) :=
  if v1 = 0 then
    bR (Ni_canalCount N 1 σ) fun r2 =>
    some (r2, σ)
  else
    if v1 = 1 then
      some ((σ.1 1 4), σ)
    else
      if v1 = 2 then
        some ((σ.1 1 5), σ)
      else
        if v1 = 3 then
          bR (Ni_toldBits N 1 σ) fun r8 =>
          some (r8, σ)
        else
          if v1 = 4 then
            bR (Ni_sum N 1 2 σ) fun r12 =>
            some (r12, σ)
          else
            if v1 = 5 then
              bR (Ni_sum N 1 3 σ) fun r16 =>
              some (r16, σ)
            else
              if v1 = 6 then
                some ((σ.1 6 3), σ)
              else
                if v1 = 7 then
                  some ((σ.1 8 3), σ)
                else
                  if v1 = 8 then
                    some ((σ.1 10 3), σ)
                  else
                    if v1 = 9 then
                      some ((σ.1 12 1), σ)
                    else
                      if v1 = 10 then
                        some ((σ.1 0 5), σ)
                      else
                        bW (Go_refuseBad N σ) fun r24 s25 =>
                        some (r24, s25)
def Go_digest_J31 (N : Nat) (v1 : Int64) (σ : St) : Option (Int64 × St) :=
  bR (Ni_fold N 1 v1 σ) fun r2 =>
  bR (Ta_fold N 6 r2 σ) fun r5 =>
  bR (Ta_fold N 8 r5 σ) fun r8 =>
  bR (Ta_fold N 10 r8 σ) fun r11 =>
  bL (((31 * r11) + (σ.2 69 1))) fun x14 =>
  some (((31 * x14) + (σ.2 69 2)), σ)
def Go_digest_L6B (N : Nat) (K6 : Int64 → Int32 → St → Option (Int64 × St)) (v1 : Int64) (v3 : Int32) (σ : St) : Option (Int64 × St) :=
  if 10 < v3 then
    Go_digest_J31 N v1 σ
  else
    bW (Go_count N v3 σ) fun r15 s16 =>
    bL (((31 * v1) + ((r15).toInt64))) fun x19 =>
    bI (v3 + 1) fun x20 =>
    K6 x19 x20 s16
def Go_digest_L6 (N : Nat) : Nat → Int64 → Int32 → St → Option (Int64 × St)
  | 0 => fun _ _ _ => none
  | n + 1 => fun v1 v3 σ => Go_digest_L6B N (Go_digest_L6 N n) v1 v3 σ
def Go_digest (N : Nat) (σ : St) : Option (Int64 × St) :=
  Go_digest_L6 N N 1847 0 σ
def Mo_in  (v0 : Int64) (v2 : Int64) (v4 : Int64) : Int32 :=
  if (lg_cmp v0 v2) < 0 then
    0
  else
    if 0 < (lg_cmp v0 v4) then
      0
    else
      1
def Mo_less  (v0 : Int32) (v1 : Int32) : Int32 :=
  if v1 ≤ v0 then
    v1
  else
    v0
def Mo_has  (v0 : Int32) (v1 : Int32) : Int32 :=
  if ((v0 >>> (v1 &&& 31)) &&& 1) = 1 then
    1
  else
    0
def Mo_copies_L3B (N : Nat) (K3 : Nat → Int32 → Nat → Int32 → Int32 → Int32 → St → Option St) (v0 : Nat) (v1 : Int32) (v2 : Nat) (v3 : Int32) (v4 : Int32) (v5 : Int32) (σ : St) : Option St :=
  if v4 ≤ v5 then
    some σ
  else
    ck (inB (v1 + v5) (lnn v0)) <|
    ck (inB (v3 + v5) (lnn v2)) <|
    bS (sI σ v2 ((v3 + v5)).toNatClampNeg (σ.1 v0 ((v1 + v5)).toNatClampNeg)) fun s4 =>
    bI (v5 + 1) fun x5 =>
    K3 v0 v1 v2 v3 v4 x5 s4
def Mo_copies_L3 (N : Nat) : Nat → Nat → Int32 → Nat → Int32 → Int32 → Int32 → St → Option St
  | 0 => fun _ _ _ _ _ _ _ => none
  | n + 1 => fun v0 v1 v2 v3 v4 v5 σ => Mo_copies_L3B N (Mo_copies_L3 N n) v0 v1 v2 v3 v4 v5 σ
def Mo_copies (N : Nat) (v0 : Nat) (v1 : Int32) (v2 : Nat) (v3 : Int32) (v4 : Int32) (σ : St) : Option St :=
  Mo_copies_L3 N N v0 v1 v2 v3 v4 0 σ
def Mo_bad (N : Nat) (v1 : Int32) (σ : St) : Option (Int32 × St) :=
  bS (sI σ 120 (0 : Int32).toNatClampNeg ((σ.1 120 (0 : Int32).toNatClampNeg) + 1)) fun s1 =>
  some (v1, s1)
def Mo_no (N : Nat) (σ : St) : Option (Int32 × St) :=
  bS (sI σ 120 (1 : Int32).toNatClampNeg ((σ.1 120 (1 : Int32).toNatClampNeg) + 1)) fun s1 =>
  some ((-3), s1)
def Mo_full (N : Nat) (σ : St) : Option (Int32 × St) :=
  bS (sI σ 120 (2 : Int32).toNatClampNeg ((σ.1 120 (2 : Int32).toNatClampNeg) + 1)) fun s1 =>
  some ((-4), s1)
def Mo_isRower (N : Nat) (v1 : Int32) (σ : St) : Option Int32 :=
  some (Mo_in ((v1).toInt64) 0 ((((σ.1 115 (36 : Int32).toNatClampNeg) - 1)).toInt64))
def Mo_isGuest (N : Nat) (v1 : Int32) (σ : St) : Option Int32 :=
  some (Mo_in ((v1).toInt64) 0 ((((σ.1 115 (37 : Int32).toNatClampNeg) - 1)).toInt64))
def Mo_isPlace  (v0 : Int32) : Int32 :=
  (Mo_in ((v0).toInt64) 0 7)
def Mo_tells_J10  (v0 : Int32) (v1 : Int32) (v3 : Int32) (w0 : Int32) : Int32 :=
  if v0 = 1 then
    (v1 + 3)
  else
    if v0 = 2 then
      w0
    else
      if v0 = 3 then
        (w0 + (v3 / 6))
      else
        if v0 = 4 then
          if 10 ≤ v3 then
            (w0 + (v3 / 6))
          else
            0
        else
          if v0 = 5 then
            if (v3 - v3 / 2 * 2) = 1 then
              (v1 + 1)
            else
              (v1 + 3)
          else
            v1
def Mo_tells  (v0 : Int32) (v1 : Int32) (v2 : Int32) (v3 : Int32) : Int32 :=
  if 4 ≤ v2 then
    Mo_tells_J10 v0 v1 v3 v1
  else
    Mo_tells_J10 v0 v1 v3 0
def Mo_hurts_J45  (v0 : Int32) (v3 : Int32) (v5 : Int32) (v6 : Int32) (w0 : Int32) : Int32 :=
  if v0 = 1 then
    v5
  else
    if v0 = 2 then
      v6
    else
      if v0 = 3 then
        w0
      else
        if v0 = 4 then
          if 3 ≤ v3 then
            w0
          else
            0
        else
          if v0 = 5 then
            (Mo_less 9 v6)
          else
            v3
def Mo_hurts_J30  (v0 : Int32) (v3 : Int32) (v5 : Int32) (w0 : Int32) : Int32 :=
  if v3 = 0 then
    Mo_hurts_J45 v0 v3 v5 w0 v5
  else
    Mo_hurts_J45 v0 v3 v5 w0 (v5 + 3)
def Mo_hurts_J13  (v0 : Int32) (v1 : Int32) (v2 : Int32) (v3 : Int32) (w0 : Int32) : Int32 :=
  if v3 = 0 then
    Mo_hurts_J30 v0 v3 w0 0
  else
    Mo_hurts_J30 v0 v3 w0 (v3 + ((v1 - v2) / 4))
def Mo_hurts  (v0 : Int32) (v1 : Int32) (v2 : Int32) (v3 : Int32) (v4 : Int32) : Int32 :=
  if 5 ≤ v4 then
    Mo_hurts_J13 v0 v1 v2 v3 v3
  else
    Mo_hurts_J13 v0 v1 v2 v3 (2 * v3)
def Mo_canalOf  (v0 : Int32) (v1 : Int32) : Int32 :=
  ((((8 + (((Mo_less v0 v1) * (15 - (Mo_less v0 v1))) / 2)) + ((v0 + v1) - (Mo_less v0 v1))) - (Mo_less v0 v1)) - 1)
def Mo_strokesOf (N : Nat) (v1 : Int32) (v2 : Int32) (σ : St) : Option Int32 :=
  if v1 = v2 then
    some 0
  else
    ck (inB (Mo_canalOf v1 v2) 286) <|
    some (σ.1 115 ((Mo_canalOf v1 v2)).toNatClampNeg)
def Mo_begins_L24B (N : Nat) (K24 : Int32 → Int32 → St → Option St) (v1 : Int32) (v2 : Int32) (σ : St) : Option St :=
  if 8 ≤ v2 then
    some σ
  else
    ck (inB (0 + v2) 286) <|
    bS (sI σ 115 ((0 + v2)).toNatClampNeg v1) fun s4 =>
    bI (v2 + 1) fun x5 =>
    K24 v1 x5 s4
def Mo_begins_L24 (N : Nat) : Nat → Int32 → Int32 → St → Option St
  | 0 => fun _ _ _ => none
  | n + 1 => fun v1 v2 σ => Mo_begins_L24B N (Mo_begins_L24 N n) v1 v2 σ
def Mo_begins_J22 (N : Nat) (v1 : Int32) (σ : St) : Option St :=
  Mo_begins_L24 N N v1 0 σ
def Mo_begins_L2B (N : Nat) (K2 : Int32 → Int32 → St → Option St) (v1 : Int32) (v2 : Int32) (σ : St) : Option St :=
  if 286 ≤ v2 then
    Mo_begins_J22 N v1 σ
  else
    ck (inB v2 286) <|
    bS (sI σ 115 (v2).toNatClampNeg 0) fun s7 =>
    bI (v2 + 1) fun x8 =>
    K2 v1 x8 s7
def Mo_begins_L2 (N : Nat) : Nat → Int32 → Int32 → St → Option St
  | 0 => fun _ _ _ => none
  | n + 1 => fun v1 v2 σ => Mo_begins_L2B N (Mo_begins_L2 N n) v1 v2 σ
def Mo_begins (N : Nat) (v1 : Int32) (σ : St) : Option St :=
  Mo_begins_L2 N N v1 0 σ
def Mo_water (N : Nat) (v1 : Int32) (σ : St) : Option (Int32 × St) :=
  if (Mo_in ((v1).toInt64) 0 9) = 0 then
    bW (Mo_bad N (-2) σ) fun r10 s11 =>
    some (r10, s11)
  else
    bI ((σ.1 115 (37 : Int32).toNatClampNeg)) fun x5 =>
    bR (Mo_begins N v1 σ) fun s7 =>
    some (x5, s7)
def Mo_dark_J19 (N : Nat) (σ : St) : Option (Int32 × St) :=
  bW (Mo_bad N (-2) σ) fun r5 s6 =>
  some (r5, s6)
def Mo_dark (N : Nat) (v1 : Int32) (v2 : Int32) (σ : St) : Option (Int32 × St) :=
  if (Mo_isPlace v1) = 0 then
    Mo_dark_J19 N σ
  else
    if (Mo_in ((v2).toInt64) 0 9) = 0 then
      Mo_dark_J19 N σ
    else
      ck (inB (0 + v1) 286) <|
      bI ((σ.1 115 ((0 + v1)).toNatClampNeg)) fun x14 =>
      ck (inB (0 + v1) 286) <|
      bS (sI σ 115 ((0 + v1)).toNatClampNeg v2) fun s16 =>
      bS (sI s16 115 (157 : Int32).toNatClampNeg 0) fun s17 =>
      some (x14, s17)
def Mo_canal_J31 (N : Nat) (σ : St) : Option (Int32 × St) :=
  bW (Mo_bad N (-2) σ) fun r5 s6 =>
  some (r5, s6)
def Mo_canal (N : Nat) (v1 : Int32) (v2 : Int32) (v3 : Int32) (σ : St) : Option (Int32 × St) :=
  if (Mo_isPlace v1) = 0 then
    Mo_canal_J31 N σ
  else
    if (Mo_isPlace v2) = 0 then
      Mo_canal_J31 N σ
    else
      if v1 = v2 then
        Mo_canal_J31 N σ
      else
        if (Mo_in ((v3).toInt64) 0 9) = 0 then
          Mo_canal_J31 N σ
        else
          bR (Mo_strokesOf N v1 v2 σ) fun r18 =>
          ck (inB (Mo_canalOf v1 v2) 286) <|
          bS (sI σ 115 ((Mo_canalOf v1 v2)).toNatClampNeg v3) fun s25 =>
          bS (sI s25 115 (157 : Int32).toNatClampNeg 0) fun s26 =>
          some (r18, s26)
def Mo_addRower (N : Nat) (v1 : Int32) (v2 : Int32) (σ : St) : Option St :=
  ck (inB (38 + (σ.1 115 (36 : Int32).toNatClampNeg)) 286) <|
  bS (sI σ 115 ((38 + (σ.1 115 (36 : Int32).toNatClampNeg))).toNatClampNeg v1) fun s2 =>
  ck (inB (41 + (s2.1 115 (36 : Int32).toNatClampNeg)) 286) <|
  bS (sI s2 115 ((41 + (s2.1 115 (36 : Int32).toNatClampNeg))).toNatClampNeg v2) fun s4 =>
  bS (sI s4 115 (36 : Int32).toNatClampNeg ((s4.1 115 (36 : Int32).toNatClampNeg) + 1)) fun s5 =>
  bS (sI s5 115 (157 : Int32).toNatClampNeg 0) fun s6 =>
  some s6
def Mo_rower_J24 (N : Nat) (σ : St) : Option (Int32 × St) :=
  bW (Mo_bad N (-2) σ) fun r5 s6 =>
  some (r5, s6)
def Mo_rower (N : Nat) (v1 : Int32) (v2 : Int32) (σ : St) : Option (Int32 × St) :=
  if (Mo_in ((v1).toInt64) 0 5) = 0 then
    Mo_rower_J24 N σ
  else
    if (Mo_in ((v2).toInt64) 0 9) = 0 then
      Mo_rower_J24 N σ
    else
      if (σ.1 115 (36 : Int32).toNatClampNeg) = 3 then
        bW (Mo_full N σ) fun r18 s19 =>
        some (r18, s19)
      else
        bR (Mo_addRower N v1 v2 σ) fun s15 =>
        some (((s15.1 115 (36 : Int32).toNatClampNeg) - 1), s15)
def Mo_addGuest (N : Nat) (v1 : Int32) (v2 : Int32) (σ : St) : Option St :=
  ck (inB (44 + (σ.1 115 (37 : Int32).toNatClampNeg)) 286) <|
  bS (sI σ 115 ((44 + (σ.1 115 (37 : Int32).toNatClampNeg))).toNatClampNeg v1) fun s2 =>
  ck (inB (48 + (s2.1 115 (37 : Int32).toNatClampNeg)) 286) <|
  bS (sI s2 115 ((48 + (s2.1 115 (37 : Int32).toNatClampNeg))).toNatClampNeg v2) fun s4 =>
  bS (sI s4 115 (37 : Int32).toNatClampNeg ((s4.1 115 (37 : Int32).toNatClampNeg) + 1)) fun s5 =>
  bS (sI s5 115 (157 : Int32).toNatClampNeg 0) fun s6 =>
  some s6
def Mo_guest_J24 (N : Nat) (σ : St) : Option (Int32 × St) :=
  bW (Mo_bad N (-2) σ) fun r5 s6 =>
  some (r5, s6)
def Mo_guest (N : Nat) (v1 : Int32) (v2 : Int32) (σ : St) : Option (Int32 × St) :=
  if (Mo_in ((v1).toInt64) 0 5) = 0 then
    Mo_guest_J24 N σ
  else
    if (Mo_in ((v2).toInt64) 1 40) = 0 then
      Mo_guest_J24 N σ
    else
      if (σ.1 115 (37 : Int32).toNatClampNeg) = 4 then
        bW (Mo_full N σ) fun r18 s19 =>
        some (r18, s19)
      else
        bR (Mo_addGuest N v1 v2 σ) fun s15 =>
        some (((s15.1 115 (37 : Int32).toNatClampNeg) - 1), s15)
def Mo_type (N : Nat) (v1 : Int32) (σ : St) : Option (Int32 × St) :=
  if (Mo_in ((v1).toInt64) 0 127) = 0 then
    bW (Mo_bad N (-2) σ) fun r13 s14 =>
    some (r13, s14)
  else
    if (σ.1 114 5) = 150 then
      bW (Mo_full N σ) fun r9 s10 =>
      some (r9, s10)
    else
      ck (inB (σ.1 114 5) 150) <|
      bS (sI σ 119 ((σ.1 114 5)).toNatClampNeg v1) fun s7 =>
      bS (sI s7 114 5 ((s7.1 114 5) + 1)) fun s8 =>
      some ((s8.1 114 5), s8)
def Mo_clear (N : Nat) (σ : St) : Option (Int32 × St) :=
  bI ((σ.1 114 5)) fun x1 =>
  bS (sI σ 114 5 0) fun s2 =>
  some (x1, s2)
def Mo_letter (N : Nat) (v1 : Int32) (σ : St) : Option Int32 :=
  if (σ.1 114 5) ≤ v1 then
    some (-1)
  else
    ck (inB v1 150) <|
    some (σ.1 119 (v1).toNatClampNeg)
def Mo_step_J276 (N : Nat) (w1 : Int32) (w2 : Int32) (σ : St) : Option St :=
  bS (sI σ 114 9 (w1 + w2)) fun s24 =>
  some s24
def Mo_step_J253 (N : Nat) (w1 : Int32) (σ : St) : Option St :=
  bS (sI σ 114 11 w1) fun s33 =>
  some s33
def Mo_step_J234 (N : Nat) (σ : St) : Option St :=
  if ((σ.1 114 9) - (σ.1 114 10)) ≤ 2 then
    Mo_step_J253 N 2 σ
  else
    Mo_step_J253 N 4 σ
def Mo_step_J218 (N : Nat) (K157 : St → Option St) (w1 : Int32) (σ : St) : Option St :=
  bS (sI σ 114 12 w1) fun s35 =>
  bS (sI s35 114 9 ((s35.1 114 9) + 1)) fun s36 =>
  K157 s36
def Mo_step_L157B (N : Nat) (K157 : St → Option St) (σ : St) : Option St :=
  bR (Mo_letter N (σ.1 114 9) σ) fun r25 =>
  if (Mo_in ((r25).toInt64) 48 57) = 0 then
    Mo_step_J234 N σ
  else
    if 2 ≤ ((σ.1 114 9) - (σ.1 114 10)) then
      Mo_step_J218 N K157 (σ.1 114 12) σ
    else
      bR (Mo_letter N (σ.1 114 9) σ) fun r37 =>
      Mo_step_J218 N K157 (((10 * (σ.1 114 12)) + r37) - 48) σ
def Mo_step_L157 (N : Nat) : Nat → St → Option St
  | 0 => fun _ => none
  | n + 1 => fun  σ => Mo_step_L157B N (Mo_step_L157 N n) σ
def Mo_step_L115B (N : Nat) (K115 : St → Option St) (σ : St) : Option St :=
  bR (Mo_letter N (σ.1 114 9) σ) fun r40 =>
  if (Mo_in ((r40).toInt64) 97 122) = 0 then
    some σ
  else
    bS (sI σ 114 9 ((σ.1 114 9) + 1)) fun s47 =>
    K115 s47
def Mo_step_L115 (N : Nat) : Nat → St → Option St
  | 0 => fun _ => none
  | n + 1 => fun  σ => Mo_step_L115B N (Mo_step_L115 N n) σ
def Mo_step_J104 (N : Nat) (w1 : Int32) (σ : St) : Option St :=
  bS (sI σ 114 11 w1) fun s20 =>
  if (s20.1 114 11) = 1 then
    Mo_step_L115 N N s20
  else
    if (s20.1 114 11) = 2 then
      Mo_step_L157 N N s20
    else
      if (s20.1 114 11) = 0 then
        Mo_step_J276 N (s20.1 114 9) 0 s20
      else
        Mo_step_J276 N (s20.1 114 9) 1 s20
def Mo_step_J26 (N : Nat) (σ : St) : Option St :=
  bS (sI σ 114 10 (σ.1 114 9)) fun s5 =>
  bR (Mo_letter N (s5.1 114 9) s5) fun r6 =>
  bS (sI s5 114 12 0) fun s9 =>
  if 0 ≤ r6 then
    if (Mo_in ((r6).toInt64) 97 122) = 0 then
      if (Mo_in ((r6).toInt64) 48 57) = 0 then
        if r6 = 59 then
          Mo_step_J104 N 3 s9
        else
          Mo_step_J104 N 4 s9
      else
        Mo_step_J104 N 2 s9
    else
      Mo_step_J104 N 1 s9
  else
    Mo_step_J104 N 0 s9
def Mo_step_L0B (N : Nat) (K0 : St → Option St) (σ : St) : Option St :=
  bR (Mo_letter N (σ.1 114 9) σ) fun r1 =>
  if r1 = 32 then
    bS (sI σ 114 9 ((σ.1 114 9) + 1)) fun s48 =>
    K0 s48
  else
    Mo_step_J26 N σ
def Mo_step_L0 (N : Nat) : Nat → St → Option St
  | 0 => fun _ => none
  | n + 1 => fun  σ => Mo_step_L0B N (Mo_step_L0 N n) σ
def Mo_step (N : Nat) (σ : St) : Option St :=
  Mo_step_L0 N N σ
def Mo_isWord_J122 (N : Nat) (σ : St) : Option Int32 :=
  some 1
def Mo_isWord_J79 (N : Nat) (v4 : Int32) (v5 : Int32) (v6 : Int32) (w0 : Int32) (σ : St) : Option Int32 :=
  if w0 = 0 then
    some 0
  else
    if v6 = 3 then
      Mo_isWord_J122 N σ
    else
      bR (Mo_letter N ((σ.1 114 10) + 3) σ) fun r5 =>
      if r5 = v4 then
        bR (Mo_letter N ((σ.1 114 10) + 4) σ) fun r9 =>
        if r9 = v5 then
          Mo_isWord_J122 N σ
        else
          some 0
      else
        some 0
def Mo_isWord_J78 (N : Nat) (v4 : Int32) (v5 : Int32) (v6 : Int32) (σ : St) : Option Int32 :=
  Mo_isWord_J79 N v4 v5 v6 0 σ
def Mo_isWord_J10 (N : Nat) (v1 : Int32) (v2 : Int32) (v3 : Int32) (v4 : Int32) (v5 : Int32) (w0 : Int32) (σ : St) : Option Int32 :=
  if (σ.1 114 11) = 1 then
    if ((σ.1 114 9) - (σ.1 114 10)) = w0 then
      bR (Mo_letter N (σ.1 114 10) σ) fun r14 =>
      if r14 = v1 then
        bR (Mo_letter N ((σ.1 114 10) + 1) σ) fun r18 =>
        if r18 = v2 then
          bR (Mo_letter N ((σ.1 114 10) + 2) σ) fun r22 =>
          if r22 = v3 then
            Mo_isWord_J79 N v4 v5 w0 1 σ
          else
            Mo_isWord_J78 N v4 v5 w0 σ
        else
          Mo_isWord_J78 N v4 v5 w0 σ
      else
        Mo_isWord_J78 N v4 v5 w0 σ
    else
      Mo_isWord_J78 N v4 v5 w0 σ
  else
    Mo_isWord_J78 N v4 v5 w0 σ
def Mo_isWord (N : Nat) (v1 : Int32) (v2 : Int32) (v3 : Int32) (v4 : Int32) (v5 : Int32) (σ : St) : Option Int32 :=
  if v4 = 0 then
    Mo_isWord_J10 N v1 v2 v3 v4 v5 3 σ
  else
    Mo_isWord_J10 N v1 v2 v3 v4 v5 5 σ
def Mo_number (N : Nat) (v1 : Int32) (v2 : Int32) (v3 : Int32) (σ : St) : Option (Int32 × St) :=
  bR (Mo_step N σ) fun s2 =>
  ck (inB v1 3) <|
  bS (sI s2 121 (v1).toNatClampNeg (s2.1 114 12)) fun s6 =>
  if (s6.1 114 11) = 2 then
    if (Mo_in (((s6.1 114 12)).toInt64) ((v2).toInt64) ((v3).toInt64)) = 0 then
      some (0, s6)
    else
      some (1, s6)
  else
    some (0, s6)
def Mo_ends (N : Nat) (σ : St) : Option (Int32 × St) :=
  bR (Mo_step N σ) fun s2 =>
  if (s2.1 114 11) = 3 then
    some (1, s2)
  else
    some (0, s2)
def Mo_isDark (N : Nat) (σ : St) : Option Int32 :=
  if (σ.1 114 11) = 1 then
    if ((σ.1 114 9) - (σ.1 114 10)) = 4 then
      bR (Mo_letter N (σ.1 114 10) σ) fun r3 =>
      if r3 = 100 then
        bR (Mo_letter N ((σ.1 114 10) + 1) σ) fun r7 =>
        if r7 = 97 then
          bR (Mo_letter N ((σ.1 114 10) + 2) σ) fun r11 =>
          if r11 = 114 then
            bR (Mo_letter N ((σ.1 114 10) + 3) σ) fun r15 =>
            if r15 = 107 then
              some 1
            else
              some 0
          else
            some 0
        else
          some 0
      else
        some 0
    else
      some 0
  else
    some 0
def Mo_can (N : Nat) (v1 : Int32) (v2 : Int32) (σ : St) : Option Int32 :=
  ck (inB (60 + v1) 286) <|
  if (σ.1 115 ((60 + v1)).toNatClampNeg) = 7 then
    some 0
  else
    ck (inB (60 + v1) 286) <|
    bR (Mo_strokesOf N (σ.1 115 ((60 + v1)).toNatClampNeg) v2 σ) fun r4 =>
    if r4 ≤ 0 then
      some 0
    else
      some 1
def Mo_rowed (N : Nat) (v1 : Int32) (v2 : Int32) (v3 : Int32) (σ : St) : Option St :=
  ck (inB (64 + v1) 286) <|
  ck (inB (60 + v1) 286) <|
  bR (Mo_strokesOf N (σ.1 115 ((60 + v1)).toNatClampNeg) v3 σ) fun r3 =>
  ck (inB (64 + v1) 286) <|
  bS (sI σ 115 ((64 + v1)).toNatClampNeg (Mo_less 999 ((σ.1 115 ((64 + v1)).toNatClampNeg) + r3))) fun s10 =>
  ck (inB (60 + v1) 286) <|
  bS (sI s10 115 ((60 + v1)).toNatClampNeg v3) fun s12 =>
  ck (inB (38 + v2) 286) <|
  ck (inB (41 + v2) 286) <|
  ck (inB (0 + v3) 286) <|
  ck (inB (64 + v1) 286) <|
  ck (inB (48 + v1) 286) <|
  ck (inB (52 + v1) 286) <|
  bI ((Mo_less (Mo_tells (s12.1 115 ((38 + v2)).toNatClampNeg) (s12.1 115 ((41 + v2)).toNatClampNeg) (s12.1 115 ((0 + v3)).toNatClampNeg) (s12.1 115 ((64 + v1)).toNatClampNeg)) ((s12.1 115 ((48 + v1)).toNatClampNeg) - (s12.1 115 ((52 + v1)).toNatClampNeg)))) fun x25 =>
  ck (inB (56 + v1) 286) <|
  ck (inB (44 + v1) 286) <|
  ck (inB (48 + v1) 286) <|
  ck (inB (52 + v1) 286) <|
  ck (inB (0 + v3) 286) <|
  ck (inB (56 + v1) 286) <|
  bS (sI s12 115 ((56 + v1)).toNatClampNeg (Mo_less 999 ((s12.1 115 ((56 + v1)).toNatClampNeg) + (Mo_hurts (s12.1 115 ((44 + v1)).toNatClampNeg) (s12.1 115 ((48 + v1)).toNatClampNeg) (s12.1 115 ((52 + v1)).toNatClampNeg) x25 (s12.1 115 ((0 + v3)).toNatClampNeg))))) fun s38 =>
  ck (inB (52 + v1) 286) <|
  ck (inB (52 + v1) 286) <|
  bS (sI s38 115 ((52 + v1)).toNatClampNeg ((s38.1 115 ((52 + v1)).toNatClampNeg) + x25)) fun s41 =>
  some s41
def Mo_readsItem_J313 (N : Nat) (σ : St) : Option (Int32 × St) :=
  bR (Mo_isWord N 114 111 119 0 0 σ) fun r17 =>
  if r17 = 0 then
    some (0, σ)
  else
    bW (Mo_number N 0 0 ((σ.1 115 (37 : Int32).toNatClampNeg) - 1) σ) fun r21 s22 =>
    if r21 = 0 then
      some (0, s22)
    else
      bW (Mo_number N 1 0 ((s22.1 115 (36 : Int32).toNatClampNeg) - 1) s22) fun r26 s27 =>
      if r26 = 0 then
        some (0, s27)
      else
        bW (Mo_number N 2 0 7 s27) fun r31 s32 =>
        if r31 = 0 then
          some (0, s32)
        else
          bR (Mo_can N (s32.1 121 (0 : Int32).toNatClampNeg) (s32.1 121 (2 : Int32).toNatClampNeg) s32) fun r36 =>
          if r36 = 0 then
            some (0, s32)
          else
            bW (Mo_ends N s32) fun r40 s41 =>
            if r40 = 0 then
              some (0, s41)
            else
              bR (Mo_rowed N (s41.1 121 (0 : Int32).toNatClampNeg) (s41.1 121 (1 : Int32).toNatClampNeg) (s41.1 121 (2 : Int32).toNatClampNeg) s41) fun s46 =>
              some (1, s46)
def Mo_readsItem_J237 (N : Nat) (σ : St) : Option (Int32 × St) :=
  bR (Mo_isWord N 103 117 101 115 116 σ) fun r13 =>
  if r13 = 0 then
    Mo_readsItem_J313 N σ
  else
    if 4 ≤ (σ.1 115 (37 : Int32).toNatClampNeg) then
      Mo_readsItem_J313 N σ
    else
      bW (Mo_number N 0 0 5 σ) fun r50 s51 =>
      if r50 = 0 then
        some (0, s51)
      else
        bW (Mo_number N 1 1 40 s51) fun r55 s56 =>
        if r55 = 0 then
          some (0, s56)
        else
          bW (Mo_ends N s56) fun r60 s61 =>
          if r60 = 0 then
            some (0, s61)
          else
            bR (Mo_addGuest N (s61.1 121 (0 : Int32).toNatClampNeg) (s61.1 121 (1 : Int32).toNatClampNeg) s61) fun s66 =>
            some (1, s66)
def Mo_readsItem (N : Nat) (σ : St) : Option (Int32 × St) :=
  bR (Mo_isDark N σ) fun r1 =>
  if r1 = 0 then
    bR (Mo_isWord N 99 97 110 97 108 σ) fun r5 =>
    if r5 = 0 then
      bR (Mo_isWord N 114 111 119 101 114 σ) fun r9 =>
      if r9 = 0 then
        Mo_readsItem_J237 N σ
      else
        if 3 ≤ (σ.1 115 (36 : Int32).toNatClampNeg) then
          Mo_readsItem_J237 N σ
        else
          bW (Mo_number N 0 0 5 σ) fun r70 s71 =>
          if r70 = 0 then
            some (0, s71)
          else
            bW (Mo_number N 1 0 9 s71) fun r75 s76 =>
            if r75 = 0 then
              some (0, s76)
            else
              bW (Mo_ends N s76) fun r80 s81 =>
              if r80 = 0 then
                some (0, s81)
              else
                bR (Mo_addRower N (s81.1 121 (0 : Int32).toNatClampNeg) (s81.1 121 (1 : Int32).toNatClampNeg) s81) fun s86 =>
                some (1, s86)
    else
      bW (Mo_number N 0 0 7 σ) fun r89 s90 =>
      if r89 = 0 then
        some (0, s90)
      else
        bW (Mo_number N 1 0 7 s90) fun r94 s95 =>
        if r94 = 0 then
          some (0, s95)
        else
          if (s95.1 121 (0 : Int32).toNatClampNeg) = (s95.1 121 (1 : Int32).toNatClampNeg) then
            some (0, s95)
          else
            bW (Mo_number N 2 0 9 s95) fun r100 s101 =>
            if r100 = 0 then
              some (0, s101)
            else
              bW (Mo_ends N s101) fun r105 s106 =>
              if r105 = 0 then
                some (0, s106)
              else
                ck (inB (Mo_canalOf (s106.1 121 (0 : Int32).toNatClampNeg) (s106.1 121 (1 : Int32).toNatClampNeg)) 286) <|
                bS (sI s106 115 ((Mo_canalOf (s106.1 121 (0 : Int32).toNatClampNeg) (s106.1 121 (1 : Int32).toNatClampNeg))).toNatClampNeg (s106.1 121 (2 : Int32).toNatClampNeg)) fun s114 =>
                some (1, s114)
  else
    bW (Mo_number N 0 0 7 σ) fun r115 s116 =>
    if r115 = 0 then
      some (0, s116)
    else
      bW (Mo_number N 1 0 9 s116) fun r120 s121 =>
      if r120 = 0 then
        some (0, s121)
      else
        bW (Mo_ends N s121) fun r125 s126 =>
        if r125 = 0 then
          some (0, s126)
        else
          ck (inB (0 + (s126.1 121 (0 : Int32).toNatClampNeg)) 286) <|
          bS (sI s126 115 ((0 + (s126.1 121 (0 : Int32).toNatClampNeg))).toNatClampNeg (s126.1 121 (1 : Int32).toNatClampNeg)) fun s131 =>
          some (1, s131)
def Mo_reads_J108 (N : Nat) (σ : St) : Option (Int32 × St) :=
  bS (sI σ 115 (157 : Int32).toNatClampNeg 0) fun s31 =>
  some (1, s31)
def Mo_reads_L75B (N : Nat) (K75 : St → Option (Int32 × St)) (σ : St) : Option (Int32 × St) :=
  if (σ.1 114 11) = 0 then
    Mo_reads_J108 N σ
  else
    bW (Mo_readsItem N σ) fun r32 s33 =>
    if r32 = 0 then
      some (0, s33)
    else
      bS (sI s33 114 14 ((s33.1 114 14) + 1)) fun s37 =>
      bR (Mo_step N s37) fun s39 =>
      K75 s39
def Mo_reads_L75 (N : Nat) : Nat → St → Option (Int32 × St)
  | 0 => fun _ => none
  | n + 1 => fun  σ => Mo_reads_L75B N (Mo_reads_L75 N n) σ
def Mo_reads (N : Nat) (σ : St) : Option (Int32 × St) :=
  bS (sI σ 114 9 0) fun s1 =>
  bS (sI s1 114 14 0) fun s2 =>
  bR (Mo_step N s2) fun s4 =>
  bR (Mo_isWord N 119 97 116 101 114 s4) fun r7 =>
  if r7 = 0 then
    some (0, s4)
  else
    bW (Mo_number N 0 0 9 s4) fun r11 s12 =>
    if r11 = 0 then
      some (0, s12)
    else
      bW (Mo_ends N s12) fun r16 s17 =>
      if r16 = 0 then
        some (0, s17)
      else
        bR (Mo_begins N (s17.1 121 (0 : Int32).toNatClampNeg) s17) fun s22 =>
        bS (sI s22 114 14 ((s22.1 114 14) + 1)) fun s25 =>
        bR (Mo_step N s25) fun s27 =>
        Mo_reads_L75 N N s27
def Mo_read (N : Nat) (σ : St) : Option (Int32 × St) :=
  bR (Mo_copies N 115 0 116 0 286 σ) fun s2 =>
  bW (Mo_reads N s2) fun r5 s6 =>
  if r5 = 0 then
    bR (Mo_copies N 116 0 115 0 286 s6) fun s11 =>
    some (((-10) - (s11.1 114 10)), s11)
  else
    some ((s6.1 114 14), s6)
def Mo_notes_J59 (N : Nat) (σ : St) : Option St :=
  bR (Mo_copies N 115 52 115 (158 + (16 * (σ.1 115 (157 : Int32).toNatClampNeg))) 16 σ) fun s3 =>
  bS (sI s3 115 (157 : Int32).toNatClampNeg ((s3.1 115 (157 : Int32).toNatClampNeg) + 1)) fun s6 =>
  some s6
def Mo_notes_J47 (N : Nat) (σ : St) : Option St :=
  bS (sI σ 115 (157 : Int32).toNatClampNeg ((σ.1 115 (157 : Int32).toNatClampNeg) - 1)) fun s8 =>
  Mo_notes_J59 N s8
def Mo_notes_L15B (N : Nat) (K15 : Int32 → St → Option St) (v1 : Int32) (σ : St) : Option St :=
  if 112 ≤ v1 then
    Mo_notes_J47 N σ
  else
    ck (inB (174 + v1) 286) <|
    ck (inB (158 + v1) 286) <|
    bS (sI σ 115 ((158 + v1)).toNatClampNeg (σ.1 115 ((174 + v1)).toNatClampNeg)) fun s11 =>
    bI (v1 + 1) fun x12 =>
    K15 x12 s11
def Mo_notes_L15 (N : Nat) : Nat → Int32 → St → Option St
  | 0 => fun _ _ => none
  | n + 1 => fun v1 σ => Mo_notes_L15B N (Mo_notes_L15 N n) v1 σ
def Mo_notes (N : Nat) (σ : St) : Option St :=
  if (σ.1 115 (157 : Int32).toNatClampNeg) = 8 then
    Mo_notes_L15 N N 0 σ
  else
    Mo_notes_J59 N σ
def Mo_rows_J23 (N : Nat) (σ : St) : Option (Int32 × St) :=
  bW (Mo_bad N (-2) σ) fun r5 s6 =>
  some (r5, s6)
def Mo_rows (N : Nat) (v1 : Int32) (v2 : Int32) (v3 : Int32) (σ : St) : Option (Int32 × St) :=
  bR (Mo_isGuest N v1 σ) fun r1 =>
  if r1 = 0 then
    Mo_rows_J23 N σ
  else
    bR (Mo_isRower N v2 σ) fun r9 =>
    if r9 = 0 then
      Mo_rows_J23 N σ
    else
      if (Mo_isPlace v3) = 0 then
        Mo_rows_J23 N σ
      else
        bR (Mo_can N v1 v3 σ) fun r17 =>
        if r17 = 0 then
          bW (Mo_no N σ) fun r30 s31 =>
          some (r30, s31)
        else
          bR (Mo_notes N σ) fun s22 =>
          bR (Mo_rowed N v1 v2 v3 s22) fun s26 =>
          ck (inB (52 + v1) 286) <|
          some ((s26.1 115 ((52 + v1)).toNatClampNeg), s26)
def Mo_enters (N : Nat) (v1 : Int32) (σ : St) : Option (Int32 × St) :=
  bR (Mo_isGuest N v1 σ) fun r1 =>
  if r1 = 0 then
    bW (Mo_bad N (-2) σ) fun r21 s22 =>
    some (r21, s22)
  else
    ck (inB (60 + v1) 286) <|
    if (σ.1 115 ((60 + v1)).toNatClampNeg) = 0 then
      bW (Mo_no N σ) fun r17 s18 =>
      some (r17, s18)
    else
      bR (Mo_notes N σ) fun s8 =>
      ck (inB (60 + v1) 286) <|
      bI ((s8.1 115 ((60 + v1)).toNatClampNeg)) fun x12 =>
      ck (inB (60 + v1) 286) <|
      bS (sI s8 115 ((60 + v1)).toNatClampNeg 0) fun s14 =>
      ck (inB (64 + v1) 286) <|
      bS (sI s14 115 ((64 + v1)).toNatClampNeg 0) fun s16 =>
      some (x12, s16)
def Mo_undo (N : Nat) (σ : St) : Option (Int32 × St) :=
  if (σ.1 115 (157 : Int32).toNatClampNeg) = 0 then
    bW (Mo_no N σ) fun r7 s8 =>
    some (r7, s8)
  else
    bS (sI σ 115 (157 : Int32).toNatClampNeg ((σ.1 115 (157 : Int32).toNatClampNeg) - 1)) fun s2 =>
    bR (Mo_copies N 115 (158 + (16 * (s2.1 115 (157 : Int32).toNatClampNeg))) 115 52 16 s2) fun s4 =>
    some ((s4.1 115 (157 : Int32).toNatClampNeg), s4)
def Mo_of_J36 (N : Nat) (σ : St) : Option (Int32 × St) :=
  bW (Mo_bad N (-2) σ) fun r5 s6 =>
  some (r5, s6)
def Mo_of (N : Nat) (v1 : Int32) (v2 : Int32) (σ : St) : Option (Int32 × St) :=
  bR (Mo_isGuest N v1 σ) fun r1 =>
  if r1 = 0 then
    Mo_of_J36 N σ
  else
    if (Mo_in ((v2).toInt64) 0 5) = 0 then
      Mo_of_J36 N σ
    else
      ck (inB ((44 + (4 * v2)) + v1) 286) <|
      some ((σ.1 115 (((44 + (4 * v2)) + v1)).toNatClampNeg), σ)
def Mo_who_J34 (N : Nat) (σ : St) : Option (Int32 × St) :=
  bW (Mo_bad N (-2) σ) fun r5 s6 =>
  some (r5, s6)
def Mo_who (N : Nat) (v1 : Int32) (v2 : Int32) (σ : St) : Option (Int32 × St) :=
  bR (Mo_isRower N v1 σ) fun r1 =>
  if r1 = 0 then
    Mo_who_J34 N σ
  else
    if (Mo_in ((v2).toInt64) 0 1) = 0 then
      Mo_who_J34 N σ
    else
      ck (inB ((38 + (3 * v2)) + v1) 286) <|
      some ((σ.1 115 (((38 + (3 * v2)) + v1)).toNatClampNeg), σ)
def Mo_beside_J27 (N : Nat) (K4 : Int32 → Int32 → Int32 → St → Option Int32) (v1 : Int32) (v3 : Int32) (w0 : Int32) (w1 : Int32) (σ : St) : Option Int32 :=
  bI ((w0 ||| w1)) fun x6 =>
  bI (v3 + 1) fun x7 =>
  K4 v1 x6 x7 σ
def Mo_beside_L4B (N : Nat) (K4 : Int32 → Int32 → Int32 → St → Option Int32) (v1 : Int32) (v2 : Int32) (v3 : Int32) (σ : St) : Option Int32 :=
  if 8 ≤ v3 then
    some v2
  else
    bR (Mo_strokesOf N v1 v3 σ) fun r2 =>
    if r2 ≤ 0 then
      Mo_beside_J27 N K4 v1 v3 v2 0 σ
    else
      Mo_beside_J27 N K4 v1 v3 v2 (1 <<< (v3 &&& 31)) σ
def Mo_beside_L4 (N : Nat) : Nat → Int32 → Int32 → Int32 → St → Option Int32
  | 0 => fun _ _ _ _ => none
  | n + 1 => fun v1 v2 v3 σ => Mo_beside_L4B N (Mo_beside_L4 N n) v1 v2 v3 σ
def Mo_beside (N : Nat) (v1 : Int32) (σ : St) : Option Int32 :=
  Mo_beside_L4 N N v1 0 0 σ
def Mo_about_J19 (N : Nat) (σ : St) : Option (Int32 × St) :=
  bW (Mo_bad N (-2) σ) fun r5 s6 =>
  some (r5, s6)
def Mo_about_J92 (N : Nat) (K57 : Int32 → Int32 → Int32 → St → Option (Int32 × St)) (v1 : Int32) (v4 : Int32) (w0 : Int32) (w1 : Int32) (σ : St) : Option (Int32 × St) :=
  bI ((w0 ||| w1)) fun x17 =>
  bI (v4 + 1) fun x18 =>
  K57 v1 x17 x18 σ
def Mo_about_L57B (N : Nat) (K57 : Int32 → Int32 → Int32 → St → Option (Int32 × St)) (v1 : Int32) (v3 : Int32) (v4 : Int32) (σ : St) : Option (Int32 × St) :=
  if (σ.1 115 (37 : Int32).toNatClampNeg) ≤ v4 then
    some (v3, σ)
  else
    ck (inB (60 + v4) 286) <|
    if (σ.1 115 ((60 + v4)).toNatClampNeg) = v1 then
      Mo_about_J92 N K57 v1 v4 v3 (1 <<< (v4 &&& 31)) σ
    else
      Mo_about_J92 N K57 v1 v4 v3 0 σ
def Mo_about_L57 (N : Nat) : Nat → Int32 → Int32 → Int32 → St → Option (Int32 × St)
  | 0 => fun _ _ _ _ => none
  | n + 1 => fun v1 v3 v4 σ => Mo_about_L57B N (Mo_about_L57 N n) v1 v3 v4 σ
def Mo_about (N : Nat) (v1 : Int32) (v2 : Int32) (σ : St) : Option (Int32 × St) :=
  if (Mo_isPlace v1) = 0 then
    Mo_about_J19 N σ
  else
    if (Mo_in ((v2).toInt64) 0 2) = 0 then
      Mo_about_J19 N σ
    else
      if 2 ≤ v2 then
        Mo_about_L57 N N v1 0 0 σ
      else
        if v2 = 0 then
          ck (inB (0 + v1) 286) <|
          some ((σ.1 115 ((0 + v1)).toNatClampNeg), σ)
        else
          bR (Mo_beside N v1 σ) fun r20 =>
          some (r20, σ)
def Mo_strokes_J23 (N : Nat) (σ : St) : Option (Int32 × St) :=
  bW (Mo_bad N (-2) σ) fun r5 s6 =>
  some (r5, s6)
def Mo_strokes (N : Nat) (v1 : Int32) (v2 : Int32) (σ : St) : Option (Int32 × St) :=
  if (Mo_isPlace v1) = 0 then
    Mo_strokes_J23 N σ
  else
    if (Mo_isPlace v2) = 0 then
      Mo_strokes_J23 N σ
    else
      bR (Mo_strokesOf N v1 v2 σ) fun r13 =>
      some (r13, σ)
def Mo_far_J14 (N : Nat) (σ : St) : Option (Int32 × St) :=
  bW (Mo_bad N (-2) σ) fun r5 s6 =>
  some (r5, s6)
def Mo_far_J151 (N : Nat) (v2 : Int32) (σ : St) : Option (Int32 × St) :=
  ck (inB v2 8) <|
  if (σ.1 122 (v2).toNatClampNeg) = 999 then
    some ((-1), σ)
  else
    ck (inB v2 8) <|
    some ((σ.1 122 (v2).toNatClampNeg), σ)
def Mo_far_J145 (N : Nat) (K55 : Int32 → Int32 → St → Option (Int32 × St)) (v2 : Int32) (v3 : Int32) (σ : St) : Option (Int32 × St) :=
  bI (v3 + 1) fun x19 =>
  K55 v2 x19 σ
def Mo_far_J139 (N : Nat) (K55 : Int32 → Int32 → St → Option (Int32 × St)) (K64 : Int32 → Int32 → Int32 → St → Option (Int32 × St)) (v2 : Int32) (v3 : Int32) (v4 : Int32) (σ : St) : Option (Int32 × St) :=
  bI (v4 + 1) fun x21 =>
  K64 v2 v3 x21 σ
def Mo_far_J132 (N : Nat) (K55 : Int32 → Int32 → St → Option (Int32 × St)) (K64 : Int32 → Int32 → Int32 → St → Option (Int32 × St)) (K74 : Int32 → Int32 → Int32 → Int32 → St → Option (Int32 × St)) (v2 : Int32) (v3 : Int32) (v4 : Int32) (v5 : Int32) (w1 : Int32) (w2 : Int32) (σ : St) : Option (Int32 × St) :=
  ck (inB w1 8) <|
  bS (sI σ 122 (w1).toNatClampNeg w2) fun s28 =>
  bI (v5 + 1) fun x29 =>
  K74 v2 v3 v4 x29 s28
def Mo_far_L74B (N : Nat) (K55 : Int32 → Int32 → St → Option (Int32 × St)) (K64 : Int32 → Int32 → Int32 → St → Option (Int32 × St)) (K74 : Int32 → Int32 → Int32 → Int32 → St → Option (Int32 × St)) (v2 : Int32) (v3 : Int32) (v4 : Int32) (v5 : Int32) (σ : St) : Option (Int32 × St) :=
  if 8 ≤ v5 then
    Mo_far_J139 N K55 K64 v2 v3 v4 σ
  else
    bR (Mo_strokesOf N v4 v5 σ) fun r22 =>
    if r22 ≤ 0 then
      ck (inB v5 8) <|
      Mo_far_J132 N K55 K64 K74 v2 v3 v4 v5 v5 (σ.1 122 (v5).toNatClampNeg) σ
    else
      ck (inB v5 8) <|
      ck (inB v4 8) <|
      Mo_far_J132 N K55 K64 K74 v2 v3 v4 v5 v5 (Mo_less (σ.1 122 (v5).toNatClampNeg) ((σ.1 122 (v4).toNatClampNeg) + r22)) σ
def Mo_far_L74 (N : Nat) (K55 : Int32 → Int32 → St → Option (Int32 × St)) (K64 : Int32 → Int32 → Int32 → St → Option (Int32 × St)) : Nat → Int32 → Int32 → Int32 → Int32 → St → Option (Int32 × St)
  | 0 => fun _ _ _ _ _ => none
  | n + 1 => fun v2 v3 v4 v5 σ => Mo_far_L74B N K55 K64 (Mo_far_L74 N K55 K64 n) v2 v3 v4 v5 σ
def Mo_far_L64B (N : Nat) (K55 : Int32 → Int32 → St → Option (Int32 × St)) (K64 : Int32 → Int32 → Int32 → St → Option (Int32 × St)) (v2 : Int32) (v3 : Int32) (v4 : Int32) (σ : St) : Option (Int32 × St) :=
  if 8 ≤ v4 then
    Mo_far_J145 N K55 v2 v3 σ
  else
    Mo_far_L74 N K55 K64 N v2 v3 v4 0 σ
def Mo_far_L64 (N : Nat) (K55 : Int32 → Int32 → St → Option (Int32 × St)) : Nat → Int32 → Int32 → Int32 → St → Option (Int32 × St)
  | 0 => fun _ _ _ _ => none
  | n + 1 => fun v2 v3 v4 σ => Mo_far_L64B N K55 (Mo_far_L64 N K55 n) v2 v3 v4 σ
def Mo_far_L55B (N : Nat) (K55 : Int32 → Int32 → St → Option (Int32 × St)) (v2 : Int32) (v3 : Int32) (σ : St) : Option (Int32 × St) :=
  if 8 ≤ v3 then
    Mo_far_J151 N v2 σ
  else
    Mo_far_L64 N K55 N v2 v3 0 σ
def Mo_far_L55 (N : Nat) : Nat → Int32 → Int32 → St → Option (Int32 × St)
  | 0 => fun _ _ _ => none
  | n + 1 => fun v2 v3 σ => Mo_far_L55B N (Mo_far_L55 N n) v2 v3 σ
def Mo_far_J53 (N : Nat) (v2 : Int32) (σ : St) : Option (Int32 × St) :=
  Mo_far_L55 N N v2 0 σ
def Mo_far_J46 (N : Nat) (K23 : Int32 → Int32 → Int32 → St → Option (Int32 × St)) (v1 : Int32) (v2 : Int32) (v3 : Int32) (w1 : Int32) (w2 : Int32) (σ : St) : Option (Int32 × St) :=
  ck (inB w1 8) <|
  bS (sI σ 122 (w1).toNatClampNeg w2) fun s37 =>
  bI (v3 + 1) fun x38 =>
  K23 v1 v2 x38 s37
def Mo_far_L23B (N : Nat) (K23 : Int32 → Int32 → Int32 → St → Option (Int32 × St)) (v1 : Int32) (v2 : Int32) (v3 : Int32) (σ : St) : Option (Int32 × St) :=
  if 8 ≤ v3 then
    Mo_far_J53 N v2 σ
  else
    if v3 = v1 then
      Mo_far_J46 N K23 v1 v2 v3 v3 0 σ
    else
      Mo_far_J46 N K23 v1 v2 v3 v3 999 σ
def Mo_far_L23 (N : Nat) : Nat → Int32 → Int32 → Int32 → St → Option (Int32 × St)
  | 0 => fun _ _ _ _ => none
  | n + 1 => fun v1 v2 v3 σ => Mo_far_L23B N (Mo_far_L23 N n) v1 v2 v3 σ
def Mo_far (N : Nat) (v1 : Int32) (v2 : Int32) (σ : St) : Option (Int32 × St) :=
  if (Mo_isPlace v1) = 0 then
    Mo_far_J14 N σ
  else
    if (Mo_isPlace v2) = 0 then
      Mo_far_J14 N σ
    else
      Mo_far_L23 N N v1 v2 0 σ
def Mo_would_J34 (N : Nat) (σ : St) : Option (Int32 × St) :=
  bW (Mo_bad N (-2) σ) fun r5 s6 =>
  some (r5, s6)
def Mo_would_J91 (N : Nat) (v1 : Int32) (w1 : Int32) (σ : St) : Option (Int32 × St) :=
  ck (inB (w1 + v1) 286) <|
  bI ((σ.1 115 ((w1 + v1)).toNatClampNeg)) fun x35 =>
  bR (Mo_copies N 116 0 115 52 16 σ) fun s37 =>
  some (x35, s37)
def Mo_would (N : Nat) (v1 : Int32) (v2 : Int32) (v3 : Int32) (v4 : Int32) (σ : St) : Option (Int32 × St) :=
  bR (Mo_isGuest N v1 σ) fun r1 =>
  if r1 = 0 then
    Mo_would_J34 N σ
  else
    bR (Mo_isRower N v2 σ) fun r9 =>
    if r9 = 0 then
      Mo_would_J34 N σ
    else
      if (Mo_isPlace v3) = 0 then
        Mo_would_J34 N σ
      else
        if (Mo_in ((v4).toInt64) 0 1) = 0 then
          Mo_would_J34 N σ
        else
          bR (Mo_can N v1 v3 σ) fun r21 =>
          if r21 = 0 then
            some ((-1), σ)
          else
            bR (Mo_copies N 115 52 116 0 16 σ) fun s26 =>
            bR (Mo_rowed N v1 v2 v3 s26) fun s30 =>
            if v4 = 0 then
              Mo_would_J91 N v1 52 s30
            else
              Mo_would_J91 N v1 56 s30
def Mo_goesOn_J136 (N : Nat) (v3 : Int32) (v4 : Int32) (v6 : Int32) (v7 : Int32) (w0 : Int32) (σ : St) : Option St :=
  ck (inB (v3 + 1) 9) <|
  bS (sI σ 123 ((v3 + 1)).toNatClampNeg v4) fun s13 =>
  ck (inB (v3 + 1) 9) <|
  bS (sI s13 126 ((v3 + 1)).toNatClampNeg v6) fun s15 =>
  ck (inB v3 9) <|
  ck (inB (v3 + 1) 9) <|
  bS (sI s15 124 ((v3 + 1)).toNatClampNeg ((s15.1 124 (v3).toNatClampNeg) + v7)) fun s18 =>
  ck (inB v3 9) <|
  ck (inB (v3 + 1) 9) <|
  bS (sI s18 125 ((v3 + 1)).toNatClampNeg (Mo_less 999 ((s18.1 125 (v3).toNatClampNeg) + w0))) fun s24 =>
  ck (inB v3 9) <|
  ck (inB (v3 + 1) 9) <|
  bS (sI s24 128 ((v3 + 1)).toNatClampNeg ((s24.1 128 (v3).toNatClampNeg) ||| (1 <<< (v4 &&& 31)))) fun s27 =>
  ck (inB (v3 + 1) 9) <|
  bS (sI s27 127 ((v3 + 1)).toNatClampNeg 0) fun s29 =>
  some s29
def Mo_goesOn_J87 (N : Nat) (v1 : Int32) (v3 : Int32) (v4 : Int32) (v5 : Int32) (v6 : Int32) (w0 : Int32) (σ : St) : Option St :=
  if v5 = 0 then
    Mo_goesOn_J136 N v3 v4 v6 w0 0 σ
  else
    ck (inB (44 + v1) 286) <|
    ck (inB (48 + v1) 286) <|
    ck (inB v3 9) <|
    ck (inB (0 + v4) 286) <|
    Mo_goesOn_J136 N v3 v4 v6 w0 (Mo_hurts (σ.1 115 ((44 + v1)).toNatClampNeg) (σ.1 115 ((48 + v1)).toNatClampNeg) (σ.1 124 (v3).toNatClampNeg) w0 (σ.1 115 ((0 + v4)).toNatClampNeg)) σ
def Mo_goesOn (N : Nat) (v1 : Int32) (v2 : Int32) (v3 : Int32) (v4 : Int32) (v5 : Int32) (σ : St) : Option St :=
  ck (inB v3 9) <|
  ck (inB v3 9) <|
  bR (Mo_strokesOf N (σ.1 123 (v3).toNatClampNeg) v4 σ) fun r3 =>
  bI ((Mo_less 999 ((σ.1 126 (v3).toNatClampNeg) + r3))) fun x9 =>
  if v5 = 0 then
    Mo_goesOn_J87 N v1 v3 v4 v5 x9 0 σ
  else
    ck (inB (38 + v2) 286) <|
    ck (inB (41 + v2) 286) <|
    ck (inB (0 + v4) 286) <|
    ck (inB (48 + v1) 286) <|
    ck (inB v3 9) <|
    Mo_goesOn_J87 N v1 v3 v4 v5 x9 (Mo_less (Mo_tells (σ.1 115 ((38 + v2)).toNatClampNeg) (σ.1 115 ((41 + v2)).toNatClampNeg) (σ.1 115 ((0 + v4)).toNatClampNeg) x9) ((σ.1 115 ((48 + v1)).toNatClampNeg) - (σ.1 124 (v3).toNatClampNeg))) σ
def Mo_starts (N : Nat) (v1 : Int32) (σ : St) : Option St :=
  ck (inB (60 + v1) 286) <|
  bS (sI σ 123 (0 : Int32).toNatClampNeg (σ.1 115 ((60 + v1)).toNatClampNeg)) fun s2 =>
  ck (inB (52 + v1) 286) <|
  bS (sI s2 124 (0 : Int32).toNatClampNeg (s2.1 115 ((52 + v1)).toNatClampNeg)) fun s4 =>
  ck (inB (56 + v1) 286) <|
  bS (sI s4 125 (0 : Int32).toNatClampNeg (s4.1 115 ((56 + v1)).toNatClampNeg)) fun s6 =>
  ck (inB (64 + v1) 286) <|
  bS (sI s6 126 (0 : Int32).toNatClampNeg (s6.1 115 ((64 + v1)).toNatClampNeg)) fun s8 =>
  ck (inB (60 + v1) 286) <|
  bS (sI s8 128 (0 : Int32).toNatClampNeg (1 <<< ((s8.1 115 ((60 + v1)).toNatClampNeg) &&& 31))) fun s10 =>
  bS (sI s10 127 (0 : Int32).toNatClampNeg 0) fun s11 =>
  some s11
def Mo_isBetter_J40 (N : Nat) (σ : St) : Option Int32 :=
  some 1
def Mo_isBetter_J20 (N : Nat) (v1 : Int32) (σ : St) : Option Int32 :=
  if (σ.1 114 22) = 0 then
    Mo_isBetter_J40 N σ
  else
    ck (inB v1 9) <|
    if (σ.1 124 (v1).toNatClampNeg) ≤ (σ.1 114 24) then
      some 0
    else
      Mo_isBetter_J40 N σ
def Mo_isBetter (N : Nat) (v1 : Int32) (σ : St) : Option Int32 :=
  if (σ.1 114 22) = 0 then
    Mo_isBetter_J20 N v1 σ
  else
    ck (inB v1 9) <|
    if (σ.1 124 (v1).toNatClampNeg) = (σ.1 114 24) then
      ck (inB v1 9) <|
      if (σ.1 125 (v1).toNatClampNeg) = (σ.1 114 25) then
        ck (inB v1 9) <|
        if (σ.1 114 26) ≤ (σ.1 126 (v1).toNatClampNeg) then
          some 0
        else
          some 1
      else
        ck (inB v1 9) <|
        if (σ.1 114 25) ≤ (σ.1 125 (v1).toNatClampNeg) then
          some 0
        else
          some 1
    else
      Mo_isBetter_J20 N v1 σ
def Mo_arrives_J95 (N : Nat) (v2 : Int32) (σ : St) : Option St :=
  ck (inB v2 9) <|
  bS (sI σ 114 27 (σ.1 125 (v2).toNatClampNeg)) fun s10 =>
  some s10
def Mo_arrives_J57 (N : Nat) (v1 : Int32) (v2 : Int32) (σ : St) : Option St :=
  ck (inB v2 9) <|
  ck (inB (48 + v1) 286) <|
  if (σ.1 124 (v2).toNatClampNeg) = (σ.1 115 ((48 + v1)).toNatClampNeg) then
    if (σ.1 114 27) < 0 then
      Mo_arrives_J95 N v2 σ
    else
      ck (inB v2 9) <|
      if (σ.1 114 27) ≤ (σ.1 125 (v2).toNatClampNeg) then
        some σ
      else
        Mo_arrives_J95 N v2 σ
  else
    some σ
def Mo_arrives (N : Nat) (v1 : Int32) (v2 : Int32) (σ : St) : Option St :=
  bR (Mo_isBetter N v2 σ) fun r1 =>
  if r1 = 0 then
    Mo_arrives_J57 N v1 v2 σ
  else
    bS (sI σ 114 22 v2) fun s13 =>
    ck (inB v2 9) <|
    bS (sI s13 114 24 (s13.1 124 (v2).toNatClampNeg)) fun s15 =>
    ck (inB v2 9) <|
    bS (sI s15 114 25 (s15.1 125 (v2).toNatClampNeg)) fun s17 =>
    ck (inB v2 9) <|
    bS (sI s17 114 26 (s17.1 126 (v2).toNatClampNeg)) fun s19 =>
    bR (Mo_copies N 123 1 129 0 v2 s19) fun s21 =>
    Mo_arrives_J57 N v1 v2 s21
def Mo_finds_J139 (N : Nat) (K35 : Int32 → Int32 → Int32 → St → Option St) (v1 : Int32) (v2 : Int32) (v3 : Int32) (σ : St) : Option St :=
  K35 v1 v2 v3 σ
def Mo_finds_L35B (N : Nat) (K35 : Int32 → Int32 → Int32 → St → Option St) (v1 : Int32) (v2 : Int32) (v3 : Int32) (σ : St) : Option St :=
  if v3 < 0 then
    some σ
  else
    ck (inB v3 9) <|
    if (σ.1 123 (v3).toNatClampNeg) = 7 then
      bR (Mo_arrives N v1 v3 σ) fun s36 =>
      bI (v3 + (-1)) fun x39 =>
      K35 v1 v2 x39 s36
    else
      ck (inB v3 9) <|
      if (σ.1 127 (v3).toNatClampNeg) ≤ 7 then
        ck (inB v3 9) <|
        bI ((σ.1 127 (v3).toNatClampNeg)) fun x15 =>
        ck (inB v3 9) <|
        ck (inB v3 9) <|
        bS (sI σ 127 (v3).toNatClampNeg ((σ.1 127 (v3).toNatClampNeg) + 1)) fun s18 =>
        ck (inB v3 9) <|
        if (Mo_has (s18.1 128 (v3).toNatClampNeg) x15) = 0 then
          ck (inB v3 9) <|
          bR (Mo_strokesOf N (s18.1 123 (v3).toNatClampNeg) x15 s18) fun r25 =>
          if r25 ≤ 0 then
            Mo_finds_J139 N K35 v1 v2 v3 s18
          else
            bR (Mo_goesOn N v1 v2 v3 x15 1 s18) fun s30 =>
            bI (v3 + 1) fun x33 =>
            Mo_finds_J139 N K35 v1 v2 x33 s30
        else
          Mo_finds_J139 N K35 v1 v2 v3 s18
      else
        bI (v3 + (-1)) fun x34 =>
        K35 v1 v2 x34 σ
def Mo_finds_L35 (N : Nat) : Nat → Int32 → Int32 → Int32 → St → Option St
  | 0 => fun _ _ _ _ => none
  | n + 1 => fun v1 v2 v3 σ => Mo_finds_L35B N (Mo_finds_L35 N n) v1 v2 v3 σ
def Mo_finds_J34 (N : Nat) (v1 : Int32) (v2 : Int32) (w0 : Int32) (σ : St) : Option St :=
  Mo_finds_L35 N N v1 v2 w0 σ
def Mo_finds (N : Nat) (v1 : Int32) (v2 : Int32) (σ : St) : Option St :=
  bS (sI σ 114 22 0) fun s1 =>
  bS (sI s1 114 27 (-1)) fun s2 =>
  bR (Mo_starts N v1 s2) fun s4 =>
  ck (inB (60 + v1) 286) <|
  if (s4.1 115 ((60 + v1)).toNatClampNeg) = 7 then
    Mo_finds_J34 N v1 v2 (-1) s4
  else
    Mo_finds_J34 N v1 v2 0 s4
def Mo_way_J22 (N : Nat) (σ : St) : Option (Int32 × St) :=
  bW (Mo_bad N (-10) σ) fun r5 s6 =>
  some (r5, s6)
def Mo_way (N : Nat) (v1 : Int32) (v2 : Int32) (v3 : Int32) (σ : St) : Option (Int32 × St) :=
  bR (Mo_isGuest N v1 σ) fun r1 =>
  if r1 = 0 then
    Mo_way_J22 N σ
  else
    bR (Mo_isRower N v2 σ) fun r9 =>
    if r9 = 0 then
      Mo_way_J22 N σ
    else
      if (-4) ≤ v3 then
        bR (Mo_finds N v1 v2 σ) fun s15 =>
        if (s15.1 114 22) = 0 then
          some ((-1), s15)
        else
          if v3 = (-4) then
            some ((s15.1 114 24), s15)
          else
            if v3 = (-3) then
              some ((s15.1 114 25), s15)
            else
              if v3 = (-2) then
                some ((s15.1 114 26), s15)
              else
                if v3 = (-1) then
                  some ((s15.1 114 22), s15)
                else
                  if (s15.1 114 22) ≤ v3 then
                    some ((-5), s15)
                  else
                    ck (inB v3 8) <|
                    some ((s15.1 129 (v3).toNatClampNeg), s15)
      else
        Mo_way_J22 N σ
def Mo_gentle_J16 (N : Nat) (σ : St) : Option (Int32 × St) :=
  bW (Mo_bad N (-2) σ) fun r5 s6 =>
  some (r5, s6)
def Mo_gentle (N : Nat) (v1 : Int32) (v2 : Int32) (σ : St) : Option (Int32 × St) :=
  bR (Mo_isGuest N v1 σ) fun r1 =>
  if r1 = 0 then
    Mo_gentle_J16 N σ
  else
    bR (Mo_isRower N v2 σ) fun r9 =>
    if r9 = 0 then
      Mo_gentle_J16 N σ
    else
      bR (Mo_finds N v1 v2 σ) fun s14 =>
      some ((s14.1 114 27), s14)
def Mo_where_J16 (N : Nat) (σ : St) : Option (Int32 × St) :=
  bW (Mo_bad N (-10) σ) fun r5 s6 =>
  some (r5, s6)
def Mo_where_L70B (N : Nat) (K70 : Int32 → Int32 → Int32 → St → Option (Int32 × St)) (v1 : Int32) (v2 : Int32) (v3 : Int32) (σ : St) : Option (Int32 × St) :=
  if (σ.1 114 22) ≤ v3 then
    some ((-1), σ)
  else
    ck (inB v3 8) <|
    bR (Mo_goesOn N v1 v2 v3 (σ.1 129 (v3).toNatClampNeg) 1 σ) fun s28 =>
    ck (inB (v3 + 1) 9) <|
    ck (inB (48 + v1) 286) <|
    if (s28.1 124 ((v3 + 1)).toNatClampNeg) = (s28.1 115 ((48 + v1)).toNatClampNeg) then
      some (v3, s28)
    else
      bI (v3 + 1) fun x34 =>
      K70 v1 v2 x34 s28
def Mo_where_L70 (N : Nat) : Nat → Int32 → Int32 → Int32 → St → Option (Int32 × St)
  | 0 => fun _ _ _ _ => none
  | n + 1 => fun v1 v2 v3 σ => Mo_where_L70B N (Mo_where_L70 N n) v1 v2 v3 σ
def Mo_where (N : Nat) (v1 : Int32) (v2 : Int32) (σ : St) : Option (Int32 × St) :=
  bR (Mo_isGuest N v1 σ) fun r1 =>
  if r1 = 0 then
    Mo_where_J16 N σ
  else
    bR (Mo_isRower N v2 σ) fun r9 =>
    if r9 = 0 then
      Mo_where_J16 N σ
    else
      ck (inB (52 + v1) 286) <|
      ck (inB (48 + v1) 286) <|
      if (σ.1 115 ((52 + v1)).toNatClampNeg) = (σ.1 115 ((48 + v1)).toNatClampNeg) then
        some ((-3), σ)
      else
        bR (Mo_finds N v1 v2 σ) fun s17 =>
        if (s17.1 114 22) = 0 then
          some ((-4), s17)
        else
          bR (Mo_starts N v1 s17) fun s22 =>
          Mo_where_L70 N N v1 v2 0 s22
def Mo_findsAll_J171 (N : Nat) (K2 : Int32 → St → Option St) (v1 : Int32) (w1 : Int32) (w2 : Int32) (σ : St) : Option St :=
  ck (inB w1 16) <|
  bS (sI σ 131 (w1).toNatClampNeg w2) fun s10 =>
  bI (v1 + 1) fun x11 =>
  K2 x11 s10
def Mo_findsAll_J144 (N : Nat) (K2 : Int32 → St → Option St) (v1 : Int32) (v2 : Int32) (w1 : Int32) (w2 : Int32) (σ : St) : Option St :=
  ck (inB w1 16) <|
  bS (sI σ 130 (w1).toNatClampNeg w2) fun s7 =>
  if v2 = 0 then
    Mo_findsAll_J171 N K2 v1 ((4 * v1) + 3) (-1) s7
  else
    ck (inB (56 + v1) 286) <|
    Mo_findsAll_J171 N K2 v1 ((4 * v1) + 3) (s7.1 115 ((56 + v1)).toNatClampNeg) s7
def Mo_findsAll_J117 (N : Nat) (K2 : Int32 → St → Option St) (v1 : Int32) (w0 : Int32) (σ : St) : Option St :=
  if w0 = 0 then
    Mo_findsAll_J144 N K2 v1 w0 ((4 * v1) + 3) (-1) σ
  else
    ck (inB (52 + v1) 286) <|
    Mo_findsAll_J144 N K2 v1 w0 ((4 * v1) + 3) (σ.1 115 ((52 + v1)).toNatClampNeg) σ
def Mo_findsAll_J98 (N : Nat) (K2 : Int32 → St → Option St) (v1 : Int32) (σ : St) : Option St :=
  ck (inB (60 + v1) 286) <|
  if (σ.1 115 ((60 + v1)).toNatClampNeg) = 7 then
    Mo_findsAll_J117 N K2 v1 1 σ
  else
    Mo_findsAll_J117 N K2 v1 0 σ
def Mo_findsAll_J91 (N : Nat) (K2 : Int32 → St → Option St) (K15 : Int32 → Int32 → St → Option St) (v1 : Int32) (v2 : Int32) (w1 : Int32) (w2 : Int32) (σ : St) : Option St :=
  ck (inB w1 16) <|
  bS (sI σ 131 (w1).toNatClampNeg w2) fun s21 =>
  bI (v2 + 1) fun x22 =>
  K15 v1 x22 s21
def Mo_findsAll_J66 (N : Nat) (K2 : Int32 → St → Option St) (K15 : Int32 → Int32 → St → Option St) (v1 : Int32) (v2 : Int32) (w1 : Int32) (w2 : Int32) (σ : St) : Option St :=
  ck (inB w1 16) <|
  bS (sI σ 130 (w1).toNatClampNeg w2) fun s18 =>
  if (s18.1 114 22) = 0 then
    Mo_findsAll_J91 N K2 K15 v1 v2 ((4 * v1) + v2) (-1) s18
  else
    Mo_findsAll_J91 N K2 K15 v1 v2 ((4 * v1) + v2) (s18.1 114 25) s18
def Mo_findsAll_J42 (N : Nat) (K2 : Int32 → St → Option St) (K15 : Int32 → Int32 → St → Option St) (v1 : Int32) (v2 : Int32) (σ : St) : Option St :=
  if (σ.1 114 22) = 0 then
    Mo_findsAll_J66 N K2 K15 v1 v2 ((4 * v1) + v2) (-1) σ
  else
    Mo_findsAll_J66 N K2 K15 v1 v2 ((4 * v1) + v2) (σ.1 114 24) σ
def Mo_findsAll_L15B (N : Nat) (K2 : Int32 → St → Option St) (K15 : Int32 → Int32 → St → Option St) (v1 : Int32) (v2 : Int32) (σ : St) : Option St :=
  if 3 ≤ v2 then
    Mo_findsAll_J98 N K2 v1 σ
  else
    bS (sI σ 114 22 0) fun s14 =>
    if (s14.1 115 (36 : Int32).toNatClampNeg) ≤ v2 then
      Mo_findsAll_J42 N K2 K15 v1 v2 s14
    else
      bR (Mo_finds N v1 v2 s14) fun s24 =>
      Mo_findsAll_J42 N K2 K15 v1 v2 s24
def Mo_findsAll_L15 (N : Nat) (K2 : Int32 → St → Option St) : Nat → Int32 → Int32 → St → Option St
  | 0 => fun _ _ _ => none
  | n + 1 => fun v1 v2 σ => Mo_findsAll_L15B N K2 (Mo_findsAll_L15 N K2 n) v1 v2 σ
def Mo_findsAll_L2B (N : Nat) (K2 : Int32 → St → Option St) (v1 : Int32) (σ : St) : Option St :=
  if (σ.1 115 (37 : Int32).toNatClampNeg) ≤ v1 then
    some σ
  else
    Mo_findsAll_L15 N K2 N v1 0 σ
def Mo_findsAll_L2 (N : Nat) : Nat → Int32 → St → Option St
  | 0 => fun _ _ => none
  | n + 1 => fun v1 σ => Mo_findsAll_L2B N (Mo_findsAll_L2 N n) v1 σ
def Mo_findsAll (N : Nat) (σ : St) : Option St :=
  Mo_findsAll_L2 N N 0 σ
def Mo_rowerBy (N : Nat) (v1 : Int32) (v2 : Int32) (σ : St) : Option Int32 :=
  some ((v1 >>> ((2 * (((σ.1 115 (37 : Int32).toNatClampNeg) - 1) - v2)) &&& 31)) &&& 3)
def Mo_shares_J165 (N : Nat) (v1 : Int32) (v2 : Int32) (v3 : Int32) (σ : St) : Option St :=
  bS (sI σ 114 32 v1) fun s4 =>
  bS (sI s4 114 30 v2) fun s5 =>
  bS (sI s5 114 31 v3) fun s6 =>
  some s6
def Mo_shares_J134 (N : Nat) (v1 : Int32) (v2 : Int32) (v3 : Int32) (σ : St) : Option St :=
  if (σ.1 114 32) < 0 then
    Mo_shares_J165 N v1 v2 v3 σ
  else
    if (σ.1 114 30) < v2 then
      Mo_shares_J165 N v1 v2 v3 σ
    else
      if v2 = (σ.1 114 30) then
        if (σ.1 114 31) ≤ v3 then
          some σ
        else
          Mo_shares_J165 N v1 v2 v3 σ
      else
        some σ
def Mo_shares_L107B (N : Nat) (K107 : Int32 → Int32 → Int32 → Int32 → Int32 → St → Option St) (v1 : Int32) (v2 : Int32) (v3 : Int32) (v4 : Int32) (v5 : Int32) (σ : St) : Option St :=
  if 3 ≤ v5 then
    Mo_shares_J134 N v1 v2 v3 σ
  else
    if ((v4 >>> ((4 * v5) &&& 31)) &&& 15) ≤ 2 then
      bI (v5 + 1) fun x11 =>
      K107 v1 v2 v3 v4 x11 σ
    else
      some σ
def Mo_shares_L107 (N : Nat) : Nat → Int32 → Int32 → Int32 → Int32 → Int32 → St → Option St
  | 0 => fun _ _ _ _ _ _ => none
  | n + 1 => fun v1 v2 v3 v4 v5 σ => Mo_shares_L107B N (Mo_shares_L107 N n) v1 v2 v3 v4 v5 σ
def Mo_shares_J104 (N : Nat) (v1 : Int32) (v2 : Int32) (v3 : Int32) (v4 : Int32) (σ : St) : Option St :=
  Mo_shares_L107 N N v1 v2 v3 v4 0 σ
def Mo_shares_J95 (N : Nat) (K10 : Int32 → Int32 → Int32 → Int32 → Int32 → St → Option St) (v1 : Int32) (v2 : Int32) (v3 : Int32) (v5 : Int32) (w0 : Int32) (w1 : Int32) (σ : St) : Option St :=
  bI ((w0 + w1)) fun x22 =>
  bI (v5 + 1) fun x23 =>
  K10 v1 v2 v3 x22 x23 σ
def Mo_shares_L10B (N : Nat) (K10 : Int32 → Int32 → Int32 → Int32 → Int32 → St → Option St) (v1 : Int32) (v2 : Int32) (v3 : Int32) (v4 : Int32) (v5 : Int32) (σ : St) : Option St :=
  if (σ.1 115 (37 : Int32).toNatClampNeg) ≤ v5 then
    Mo_shares_J104 N v1 v2 v3 v4 σ
  else
    bR (Mo_rowerBy N v1 v5 σ) fun r12 =>
    ck (inB ((4 * v5) + r12) 16) <|
    if 0 ≤ (σ.1 130 (((4 * v5) + r12)).toNatClampNeg) then
      ck (inB ((4 * v5) + r12) 16) <|
      bI ((v2 + (σ.1 130 (((4 * v5) + r12)).toNatClampNeg))) fun x18 =>
      ck (inB ((4 * v5) + r12) 16) <|
      bI ((v3 + (σ.1 131 (((4 * v5) + r12)).toNatClampNeg))) fun x20 =>
      if 3 ≤ r12 then
        Mo_shares_J95 N K10 v1 x18 x20 v5 v4 0 σ
      else
        Mo_shares_J95 N K10 v1 x18 x20 v5 v4 (1 <<< ((4 * r12) &&& 31)) σ
    else
      some σ
def Mo_shares_L10 (N : Nat) : Nat → Int32 → Int32 → Int32 → Int32 → Int32 → St → Option St
  | 0 => fun _ _ _ _ _ _ => none
  | n + 1 => fun v1 v2 v3 v4 v5 σ => Mo_shares_L10B N (Mo_shares_L10 N n) v1 v2 v3 v4 v5 σ
def Mo_shares (N : Nat) (v1 : Int32) (σ : St) : Option St :=
  Mo_shares_L10 N N v1 0 0 0 0 σ
def Mo_share_J64 (N : Nat) (v1 : Int32) (σ : St) : Option (Int32 × St) :=
  if 0 ≤ (σ.1 114 32) then
    if 0 ≤ v1 then
      bR (Mo_rowerBy N (σ.1 114 32) v1 σ) fun r10 =>
      if r10 = 3 then
        some ((-1), σ)
      else
        some (r10, σ)
    else
      if v1 = (-3) then
        some ((σ.1 114 30), σ)
      else
        some ((σ.1 114 31), σ)
  else
    some ((-5), σ)
def Mo_share_L38B (N : Nat) (K38 : Int32 → Int32 → St → Option (Int32 × St)) (v1 : Int32) (v2 : Int32) (σ : St) : Option (Int32 × St) :=
  if (1 <<< ((2 * (σ.1 115 (37 : Int32).toNatClampNeg)) &&& 31)) ≤ v2 then
    Mo_share_J64 N v1 σ
  else
    bR (Mo_shares N v2 σ) fun s16 =>
    bI (v2 + 1) fun x19 =>
    K38 v1 x19 s16
def Mo_share_L38 (N : Nat) : Nat → Int32 → Int32 → St → Option (Int32 × St)
  | 0 => fun _ _ _ => none
  | n + 1 => fun v1 v2 σ => Mo_share_L38B N (Mo_share_L38 N n) v1 v2 σ
def Mo_share_J27 (N : Nat) (v1 : Int32) (σ : St) : Option (Int32 × St) :=
  bR (Mo_findsAll N σ) fun s3 =>
  bS (sI s3 114 32 (-1)) fun s6 =>
  Mo_share_L38 N N v1 0 s6
def Mo_share (N : Nat) (v1 : Int32) (σ : St) : Option (Int32 × St) :=
  if v1 = (-3) then
    Mo_share_J27 N v1 σ
  else
    if v1 = (-2) then
      Mo_share_J27 N v1 σ
    else
      bR (Mo_isGuest N v1 σ) fun r21 =>
      if r21 = 0 then
        bW (Mo_bad N (-10) σ) fun r25 s26 =>
        some (r25, s26)
      else
        Mo_share_J27 N v1 σ
def Mo_seen_J45 (N : Nat) (σ : St) : Option (Int32 × St) :=
  bW (Mo_bad N (-2) σ) fun r5 s6 =>
  some (r5, s6)
def Mo_seen (N : Nat) (v1 : Int32) (v2 : Int32) (v3 : Int32) (v4 : Int32) (σ : St) : Option (Int32 × St) :=
  bR (Mo_isRower N v1 σ) fun r1 =>
  if r1 = 0 then
    Mo_seen_J45 N σ
  else
    if (Mo_in ((v2).toInt64) 0 9) = 0 then
      Mo_seen_J45 N σ
    else
      if (Mo_in ((v3).toInt64) 0 99) = 0 then
        Mo_seen_J45 N σ
      else
        if (Mo_in ((v4).toInt64) 0 99) = 0 then
          Mo_seen_J45 N σ
        else
          if (σ.1 115 (68 : Int32).toNatClampNeg) = 5 then
            bW (Mo_full N σ) fun r32 s33 =>
            some (r32, s33)
          else
            bI ((69 + (4 * (σ.1 115 (68 : Int32).toNatClampNeg)))) fun x22 =>
            ck (inB x22 286) <|
            bS (sI σ 115 (x22).toNatClampNeg v1) fun s24 =>
            ck (inB (x22 + 1) 286) <|
            bS (sI s24 115 ((x22 + 1)).toNatClampNeg v2) fun s26 =>
            ck (inB (x22 + 2) 286) <|
            bS (sI s26 115 ((x22 + 2)).toNatClampNeg v3) fun s28 =>
            ck (inB (x22 + 3) 286) <|
            bS (sI s28 115 ((x22 + 3)).toNatClampNeg v4) fun s30 =>
            bS (sI s30 115 (68 : Int32).toNatClampNeg ((s30.1 115 (68 : Int32).toNatClampNeg) + 1)) fun s31 =>
            some ((s31.1 115 (68 : Int32).toNatClampNeg), s31)
def Mo_tonguesOf_J111 (N : Nat) (K6 : Int32 → Int32 → Int32 → St → Option Int32) (v1 : Int32) (v2 : Int32) (v3 : Int32) (σ : St) : Option Int32 :=
  bI (v3 + 1) fun x4 =>
  K6 v1 v2 x4 σ
def Mo_tonguesOf_J103 (N : Nat) (K6 : Int32 → Int32 → Int32 → St → Option Int32) (K28 : Int32 → Int32 → Int32 → Int32 → Int32 → St → Option Int32) (v1 : Int32) (v3 : Int32) (v4 : Int32) (v5 : Int32) (w0 : Int32) (w1 : Int32) (σ : St) : Option Int32 :=
  bI ((w0 &&& w1)) fun x15 =>
  bI (v5 + 1) fun x16 =>
  K28 v1 x15 v3 v4 x16 σ
def Mo_tonguesOf_L28B (N : Nat) (K6 : Int32 → Int32 → Int32 → St → Option Int32) (K28 : Int32 → Int32 → Int32 → Int32 → Int32 → St → Option Int32) (v1 : Int32) (v2 : Int32) (v3 : Int32) (v4 : Int32) (v5 : Int32) (σ : St) : Option Int32 :=
  if 10 ≤ v5 then
    Mo_tonguesOf_J111 N K6 v1 v2 v3 σ
  else
    ck (inB v4 286) <|
    if (σ.1 115 (v4).toNatClampNeg) = v1 then
      ck (inB (38 + v1) 286) <|
      ck (inB (v4 + 1) 286) <|
      ck (inB (v4 + 2) 286) <|
      ck (inB (v4 + 3) 286) <|
      if (Mo_tells (σ.1 115 ((38 + v1)).toNatClampNeg) v5 (σ.1 115 ((v4 + 1)).toNatClampNeg) (σ.1 115 ((v4 + 2)).toNatClampNeg)) = (σ.1 115 ((v4 + 3)).toNatClampNeg) then
        Mo_tonguesOf_J103 N K6 K28 v1 v3 v4 v5 v2 1023 σ
      else
        Mo_tonguesOf_J103 N K6 K28 v1 v3 v4 v5 v2 ((1 <<< (v5 &&& 31)) ^^^ (-1)) σ
    else
      Mo_tonguesOf_J111 N K6 v1 v2 v3 σ
def Mo_tonguesOf_L28 (N : Nat) (K6 : Int32 → Int32 → Int32 → St → Option Int32) : Nat → Int32 → Int32 → Int32 → Int32 → Int32 → St → Option Int32
  | 0 => fun _ _ _ _ _ _ => none
  | n + 1 => fun v1 v2 v3 v4 v5 σ => Mo_tonguesOf_L28B N K6 (Mo_tonguesOf_L28 N K6 n) v1 v2 v3 v4 v5 σ
def Mo_tonguesOf_L6B (N : Nat) (K6 : Int32 → Int32 → Int32 → St → Option Int32) (v1 : Int32) (v2 : Int32) (v3 : Int32) (σ : St) : Option Int32 :=
  if (σ.1 115 (68 : Int32).toNatClampNeg) ≤ v3 then
    some v2
  else
    bI ((69 + (4 * v3))) fun x2 =>
    Mo_tonguesOf_L28 N K6 N v1 v2 v3 x2 0 σ
def Mo_tonguesOf_L6 (N : Nat) : Nat → Int32 → Int32 → Int32 → St → Option Int32
  | 0 => fun _ _ _ _ => none
  | n + 1 => fun v1 v2 v3 σ => Mo_tonguesOf_L6B N (Mo_tonguesOf_L6 N n) v1 v2 v3 σ
def Mo_tonguesOf (N : Nat) (v1 : Int32) (σ : St) : Option Int32 :=
  Mo_tonguesOf_L6 N N v1 1023 0 σ
def Mo_tongues (N : Nat) (v1 : Int32) (σ : St) : Option (Int32 × St) :=
  bR (Mo_isRower N v1 σ) fun r1 =>
  if r1 = 0 then
    bW (Mo_bad N (-2) σ) fun r5 s6 =>
    some (r5, s6)
  else
    bR (Mo_tonguesOf N v1 σ) fun r9 =>
    some (r9, σ)
def Mo_mostAlike_J83 (N : Nat) (K5 : Int32 → Int32 → Int32 → Int32 → St → Option Int32) (v1 : Int32) (v2 : Int32) (v4 : Int32) (w0 : Int32) (σ : St) : Option Int32 :=
  bI (v4 + 1) fun x4 =>
  K5 v1 v2 w0 x4 σ
def Mo_mostAlike_J71 (N : Nat) (K5 : Int32 → Int32 → Int32 → Int32 → St → Option Int32) (v1 : Int32) (v2 : Int32) (v3 : Int32) (v4 : Int32) (v5 : Int32) (σ : St) : Option Int32 :=
  if v5 ≤ v3 then
    Mo_mostAlike_J83 N K5 v1 v2 v4 v3 σ
  else
    Mo_mostAlike_J83 N K5 v1 v2 v4 v5 σ
def Mo_mostAlike_J62 (N : Nat) (K5 : Int32 → Int32 → Int32 → Int32 → St → Option Int32) (K17 : Int32 → Int32 → Int32 → Int32 → Int32 → Int32 → St → Option Int32) (v1 : Int32) (v2 : Int32) (v3 : Int32) (v4 : Int32) (v6 : Int32) (w0 : Int32) (w1 : Int32) (σ : St) : Option Int32 :=
  bI ((w0 + w1)) fun x6 =>
  bI (v6 + 1) fun x7 =>
  K17 v1 v2 v3 v4 x6 x7 σ
def Mo_mostAlike_J61 (N : Nat) (K5 : Int32 → Int32 → Int32 → Int32 → St → Option Int32) (K17 : Int32 → Int32 → Int32 → Int32 → Int32 → Int32 → St → Option Int32) (v1 : Int32) (v2 : Int32) (v3 : Int32) (v4 : Int32) (v6 : Int32) (w0 : Int32) (σ : St) : Option Int32 :=
  Mo_mostAlike_J62 N K5 K17 v1 v2 v3 v4 v6 w0 0 σ
def Mo_mostAlike_L17B (N : Nat) (K5 : Int32 → Int32 → Int32 → Int32 → St → Option Int32) (K17 : Int32 → Int32 → Int32 → Int32 → Int32 → Int32 → St → Option Int32) (v1 : Int32) (v2 : Int32) (v3 : Int32) (v4 : Int32) (v5 : Int32) (v6 : Int32) (σ : St) : Option Int32 :=
  if v2 ≤ v6 then
    Mo_mostAlike_J71 N K5 v1 v2 v3 v4 v5 σ
  else
    if (((v1 >>> (v4 &&& 31)) &&& (v1 >>> (v6 &&& 31))) &&& 1) = 1 then
      ck (inB v4 10) <|
      ck (inB v6 10) <|
      if (σ.1 132 (v4).toNatClampNeg) = (σ.1 132 (v6).toNatClampNeg) then
        Mo_mostAlike_J62 N K5 K17 v1 v2 v3 v4 v6 v5 1 σ
      else
        Mo_mostAlike_J61 N K5 K17 v1 v2 v3 v4 v6 v5 σ
    else
      Mo_mostAlike_J61 N K5 K17 v1 v2 v3 v4 v6 v5 σ
def Mo_mostAlike_L17 (N : Nat) (K5 : Int32 → Int32 → Int32 → Int32 → St → Option Int32) : Nat → Int32 → Int32 → Int32 → Int32 → Int32 → Int32 → St → Option Int32
  | 0 => fun _ _ _ _ _ _ _ => none
  | n + 1 => fun v1 v2 v3 v4 v5 v6 σ => Mo_mostAlike_L17B N K5 (Mo_mostAlike_L17 N K5 n) v1 v2 v3 v4 v5 v6 σ
def Mo_mostAlike_L5B (N : Nat) (K5 : Int32 → Int32 → Int32 → Int32 → St → Option Int32) (v1 : Int32) (v2 : Int32) (v3 : Int32) (v4 : Int32) (σ : St) : Option Int32 :=
  if v2 ≤ v4 then
    some v3
  else
    Mo_mostAlike_L17 N K5 N v1 v2 v3 v4 0 0 σ
def Mo_mostAlike_L5 (N : Nat) : Nat → Int32 → Int32 → Int32 → Int32 → St → Option Int32
  | 0 => fun _ _ _ _ _ => none
  | n + 1 => fun v1 v2 v3 v4 σ => Mo_mostAlike_L5B N (Mo_mostAlike_L5 N n) v1 v2 v3 v4 σ
def Mo_mostAlike (N : Nat) (v1 : Int32) (v2 : Int32) (σ : St) : Option Int32 :=
  Mo_mostAlike_L5 N N v1 v2 0 0 σ
def Mo_tell_J136 (N : Nat) (K30 : Int32 → Int32 → Int32 → Int32 → Int32 → St → Option (Int32 × St)) (v1 : Int32) (v2 : Int32) (v3 : Int32) (v4 : Int32) (v5 : Int32) (σ : St) : Option (Int32 × St) :=
  bI (v5 + 1) fun x11 =>
  K30 v1 v2 v3 v4 x11 σ
def Mo_tell_J120 (N : Nat) (K30 : Int32 → Int32 → Int32 → Int32 → Int32 → St → Option (Int32 × St)) (K44 : Int32 → Int32 → Int32 → Int32 → Int32 → Int32 → St → Option (Int32 × St)) (v1 : Int32) (v2 : Int32) (v4 : Int32) (v5 : Int32) (v6 : Int32) (v7 : Int32) (w0 : Int32) (σ : St) : Option (Int32 × St) :=
  bI ((Mo_less v4 v7)) fun x20 =>
  bI (v6 + 1) fun x21 =>
  K44 v1 v2 w0 x20 v5 x21 σ
def Mo_tell_J92 (N : Nat) (K30 : Int32 → Int32 → Int32 → Int32 → Int32 → St → Option (Int32 × St)) (K44 : Int32 → Int32 → Int32 → Int32 → Int32 → Int32 → St → Option (Int32 × St)) (v1 : Int32) (v2 : Int32) (v3 : Int32) (v4 : Int32) (v5 : Int32) (v6 : Int32) (σ : St) : Option (Int32 × St) :=
  bR (Mo_mostAlike N v2 10 σ) fun r13 =>
  if v4 ≤ r13 then
    Mo_tell_J120 N K30 K44 v1 v2 v4 v5 v6 r13 v3 σ
  else
    Mo_tell_J120 N K30 K44 v1 v2 v4 v5 v6 r13 ((100 * v5) + v6) σ
def Mo_tell_L54B (N : Nat) (K30 : Int32 → Int32 → Int32 → Int32 → Int32 → St → Option (Int32 × St)) (K44 : Int32 → Int32 → Int32 → Int32 → Int32 → Int32 → St → Option (Int32 × St)) (K54 : Int32 → Int32 → Int32 → Int32 → Int32 → Int32 → Int32 → St → Option (Int32 × St)) (v1 : Int32) (v2 : Int32) (v3 : Int32) (v4 : Int32) (v5 : Int32) (v6 : Int32) (v7 : Int32) (σ : St) : Option (Int32 × St) :=
  if 10 ≤ v7 then
    Mo_tell_J92 N K30 K44 v1 v2 v3 v4 v5 v6 σ
  else
    ck (inB (38 + v1) 286) <|
    ck (inB v7 10) <|
    bS (sI σ 132 (v7).toNatClampNeg (Mo_tells (σ.1 115 ((38 + v1)).toNatClampNeg) v7 v5 v6)) fun s27 =>
    bI (v7 + 1) fun x28 =>
    K54 v1 v2 v3 v4 v5 v6 x28 s27
def Mo_tell_L54 (N : Nat) (K30 : Int32 → Int32 → Int32 → Int32 → Int32 → St → Option (Int32 × St)) (K44 : Int32 → Int32 → Int32 → Int32 → Int32 → Int32 → St → Option (Int32 × St)) : Nat → Int32 → Int32 → Int32 → Int32 → Int32 → Int32 → Int32 → St → Option (Int32 × St)
  | 0 => fun _ _ _ _ _ _ _ _ => none
  | n + 1 => fun v1 v2 v3 v4 v5 v6 v7 σ => Mo_tell_L54B N K30 K44 (Mo_tell_L54 N K30 K44 n) v1 v2 v3 v4 v5 v6 v7 σ
def Mo_tell_L44B (N : Nat) (K30 : Int32 → Int32 → Int32 → Int32 → Int32 → St → Option (Int32 × St)) (K44 : Int32 → Int32 → Int32 → Int32 → Int32 → Int32 → St → Option (Int32 × St)) (v1 : Int32) (v2 : Int32) (v3 : Int32) (v4 : Int32) (v5 : Int32) (v6 : Int32) (σ : St) : Option (Int32 × St) :=
  if 31 ≤ v6 then
    Mo_tell_J136 N K30 v1 v2 v3 v4 v5 σ
  else
    Mo_tell_L54 N K30 K44 N v1 v2 v3 v4 v5 v6 0 σ
def Mo_tell_L44 (N : Nat) (K30 : Int32 → Int32 → Int32 → Int32 → Int32 → St → Option (Int32 × St)) : Nat → Int32 → Int32 → Int32 → Int32 → Int32 → Int32 → St → Option (Int32 × St)
  | 0 => fun _ _ _ _ _ _ _ => none
  | n + 1 => fun v1 v2 v3 v4 v5 v6 σ => Mo_tell_L44B N K30 (Mo_tell_L44 N K30 n) v1 v2 v3 v4 v5 v6 σ
def Mo_tell_L30B (N : Nat) (K30 : Int32 → Int32 → Int32 → Int32 → Int32 → St → Option (Int32 × St)) (v1 : Int32) (v2 : Int32) (v3 : Int32) (v4 : Int32) (v5 : Int32) (σ : St) : Option (Int32 × St) :=
  if 10 ≤ v5 then
    some (v3, σ)
  else
    if v2 = 0 then
      some (v3, σ)
    else
      Mo_tell_L44 N K30 N v1 v2 v3 v4 v5 0 σ
def Mo_tell_L30 (N : Nat) : Nat → Int32 → Int32 → Int32 → Int32 → Int32 → St → Option (Int32 × St)
  | 0 => fun _ _ _ _ _ _ => none
  | n + 1 => fun v1 v2 v3 v4 v5 σ => Mo_tell_L30B N (Mo_tell_L30 N n) v1 v2 v3 v4 v5 σ
def Mo_tell (N : Nat) (v1 : Int32) (σ : St) : Option (Int32 × St) :=
  bR (Mo_isRower N v1 σ) fun r1 =>
  if r1 = 0 then
    bW (Mo_bad N (-2) σ) fun r29 s30 =>
    some (r29, s30)
  else
    bR (Mo_tonguesOf N v1 σ) fun r5 =>
    Mo_tell_L30 N N v1 r5 (-1) 99 0 σ
def Mo_note_J70 (N : Nat) (σ : St) : Option (Int32 × St) :=
  bW (Mo_bad N (-2) σ) fun r5 s6 =>
  some (r5, s6)
def Mo_note (N : Nat) (v1 : Int32) (v2 : Int32) (v3 : Int32) (v4 : Int32) (v5 : Int32) (v6 : Int32) (σ : St) : Option (Int32 × St) :=
  bR (Mo_isGuest N v1 σ) fun r1 =>
  if r1 = 0 then
    Mo_note_J70 N σ
  else
    if (Mo_in ((v2).toInt64) 1 40) = 0 then
      Mo_note_J70 N σ
    else
      if (Mo_in ((v3).toInt64) 0 ((v2).toInt64)) = 0 then
        Mo_note_J70 N σ
      else
        if (Mo_in ((v4).toInt64) 0 20) = 0 then
          Mo_note_J70 N σ
        else
          if (Mo_in ((v5).toInt64) 0 9) = 0 then
            Mo_note_J70 N σ
          else
            if (Mo_in ((v6).toInt64) 0 60) = 0 then
              Mo_note_J70 N σ
            else
              if (σ.1 115 (89 : Int32).toNatClampNeg) = 6 then
                bW (Mo_full N σ) fun r44 s45 =>
                some (r44, s45)
              else
                bI ((90 + (6 * (σ.1 115 (89 : Int32).toNatClampNeg)))) fun x30 =>
                ck (inB x30 286) <|
                bS (sI σ 115 (x30).toNatClampNeg v1) fun s32 =>
                ck (inB (x30 + 1) 286) <|
                bS (sI s32 115 ((x30 + 1)).toNatClampNeg v2) fun s34 =>
                ck (inB (x30 + 2) 286) <|
                bS (sI s34 115 ((x30 + 2)).toNatClampNeg v3) fun s36 =>
                ck (inB (x30 + 3) 286) <|
                bS (sI s36 115 ((x30 + 3)).toNatClampNeg v4) fun s38 =>
                ck (inB (x30 + 4) 286) <|
                bS (sI s38 115 ((x30 + 4)).toNatClampNeg v5) fun s40 =>
                ck (inB (x30 + 5) 286) <|
                bS (sI s40 115 ((x30 + 5)).toNatClampNeg v6) fun s42 =>
                bS (sI s42 115 (89 : Int32).toNatClampNeg ((s42.1 115 (89 : Int32).toNatClampNeg) + 1)) fun s43 =>
                some ((s43.1 115 (89 : Int32).toNatClampNeg), s43)
def Mo_mark_J58 (N : Nat) (σ : St) : Option (Int32 × St) :=
  bW (Mo_bad N (-2) σ) fun r5 s6 =>
  some (r5, s6)
def Mo_mark (N : Nat) (v1 : Int32) (v2 : Int32) (v3 : Int32) (v4 : Int32) (v5 : Int32) (σ : St) : Option (Int32 × St) :=
  bR (Mo_isRower N v1 σ) fun r1 =>
  if r1 = 0 then
    Mo_mark_J58 N σ
  else
    if (Mo_in ((v2).toInt64) 0 9) = 0 then
      Mo_mark_J58 N σ
    else
      if (Mo_in ((v3).toInt64) 0 9) = 0 then
        Mo_mark_J58 N σ
      else
        if (Mo_in ((v4).toInt64) 0 99) = 0 then
          Mo_mark_J58 N σ
        else
          if (Mo_in ((v5).toInt64) 0 99) = 0 then
            Mo_mark_J58 N σ
          else
            if (σ.1 115 (126 : Int32).toNatClampNeg) = 6 then
              bW (Mo_full N σ) fun r38 s39 =>
              some (r38, s39)
            else
              bI ((127 + (5 * (σ.1 115 (126 : Int32).toNatClampNeg)))) fun x26 =>
              ck (inB x26 286) <|
              bS (sI σ 115 (x26).toNatClampNeg v1) fun s28 =>
              ck (inB (x26 + 1) 286) <|
              bS (sI s28 115 ((x26 + 1)).toNatClampNeg v2) fun s30 =>
              ck (inB (x26 + 2) 286) <|
              bS (sI s30 115 ((x26 + 2)).toNatClampNeg v3) fun s32 =>
              ck (inB (x26 + 3) 286) <|
              bS (sI s32 115 ((x26 + 3)).toNatClampNeg v4) fun s34 =>
              ck (inB (x26 + 4) 286) <|
              bS (sI s34 115 ((x26 + 4)).toNatClampNeg v5) fun s36 =>
              bS (sI s36 115 (126 : Int32).toNatClampNeg ((s36.1 115 (126 : Int32).toNatClampNeg) + 1)) fun s37 =>
              some ((s37.1 115 (126 : Int32).toNatClampNeg), s37)
def Mo_forget_J40 (N : Nat) (w0 : Int32) (σ : St) : Option (Int32 × St) :=
  ck (inB w0 286) <|
  bI ((σ.1 115 (w0).toNatClampNeg)) fun x8 =>
  ck (inB w0 286) <|
  bS (sI σ 115 (w0).toNatClampNeg 0) fun s10 =>
  some (x8, s10)
def Mo_forget (N : Nat) (v1 : Int32) (σ : St) : Option (Int32 × St) :=
  if (Mo_in ((v1).toInt64) 0 2) = 0 then
    bW (Mo_bad N (-2) σ) fun r11 s12 =>
    some (r11, s12)
  else
    if v1 = 0 then
      Mo_forget_J40 N 68 σ
    else
      if v1 = 1 then
        Mo_forget_J40 N 89 σ
      else
        Mo_forget_J40 N 126 σ
def Mo_guestsOf_J119 (N : Nat) (K5 : Int32 → Int32 → Int32 → St → Option Int32) (v1 : Int32) (v2 : Int32) (v3 : Int32) (σ : St) : Option Int32 :=
  bI (v3 + 1) fun x4 =>
  K5 v1 v2 x4 σ
def Mo_guestsOf_J111 (N : Nat) (K5 : Int32 → Int32 → Int32 → St → Option Int32) (K28 : Int32 → Int32 → Int32 → Int32 → Int32 → St → Option Int32) (v1 : Int32) (v3 : Int32) (v4 : Int32) (v5 : Int32) (w0 : Int32) (w1 : Int32) (σ : St) : Option Int32 :=
  bI ((w0 &&& w1)) fun x16 =>
  bI (v5 + 1) fun x17 =>
  K28 v1 x16 v3 v4 x17 σ
def Mo_guestsOf_L28B (N : Nat) (K5 : Int32 → Int32 → Int32 → St → Option Int32) (K28 : Int32 → Int32 → Int32 → Int32 → Int32 → St → Option Int32) (v1 : Int32) (v2 : Int32) (v3 : Int32) (v4 : Int32) (v5 : Int32) (σ : St) : Option Int32 :=
  if 6 ≤ v5 then
    Mo_guestsOf_J119 N K5 v1 v2 v3 σ
  else
    ck (inB v4 286) <|
    if (σ.1 115 (v4).toNatClampNeg) = v1 then
      ck (inB (v4 + 1) 286) <|
      ck (inB (v4 + 2) 286) <|
      ck (inB (v4 + 3) 286) <|
      ck (inB (v4 + 4) 286) <|
      ck (inB (v4 + 5) 286) <|
      if (Mo_hurts v5 (σ.1 115 ((v4 + 1)).toNatClampNeg) (σ.1 115 ((v4 + 2)).toNatClampNeg) (σ.1 115 ((v4 + 3)).toNatClampNeg) (σ.1 115 ((v4 + 4)).toNatClampNeg)) = (σ.1 115 ((v4 + 5)).toNatClampNeg) then
        Mo_guestsOf_J111 N K5 K28 v1 v3 v4 v5 v2 63 σ
      else
        Mo_guestsOf_J111 N K5 K28 v1 v3 v4 v5 v2 ((1 <<< (v5 &&& 31)) ^^^ (-1)) σ
    else
      Mo_guestsOf_J119 N K5 v1 v2 v3 σ
def Mo_guestsOf_L28 (N : Nat) (K5 : Int32 → Int32 → Int32 → St → Option Int32) : Nat → Int32 → Int32 → Int32 → Int32 → Int32 → St → Option Int32
  | 0 => fun _ _ _ _ _ _ => none
  | n + 1 => fun v1 v2 v3 v4 v5 σ => Mo_guestsOf_L28B N K5 (Mo_guestsOf_L28 N K5 n) v1 v2 v3 v4 v5 σ
def Mo_guestsOf_L5B (N : Nat) (K5 : Int32 → Int32 → Int32 → St → Option Int32) (v1 : Int32) (v2 : Int32) (v3 : Int32) (σ : St) : Option Int32 :=
  if (σ.1 115 (89 : Int32).toNatClampNeg) ≤ v3 then
    some v2
  else
    bI ((90 + (6 * v3))) fun x2 =>
    Mo_guestsOf_L28 N K5 N v1 v2 v3 x2 0 σ
def Mo_guestsOf_L5 (N : Nat) : Nat → Int32 → Int32 → Int32 → St → Option Int32
  | 0 => fun _ _ _ _ => none
  | n + 1 => fun v1 v2 v3 σ => Mo_guestsOf_L5B N (Mo_guestsOf_L5 N n) v1 v2 v3 σ
def Mo_guestsOf (N : Nat) (v1 : Int32) (σ : St) : Option Int32 :=
  Mo_guestsOf_L5 N N v1 63 0 σ
def Mo_is (N : Nat) (v1 : Int32) (σ : St) : Option (Int32 × St) :=
  bR (Mo_isGuest N v1 σ) fun r1 =>
  if r1 = 0 then
    bW (Mo_bad N (-2) σ) fun r5 s6 =>
    some (r5, s6)
  else
    bR (Mo_guestsOf N v1 σ) fun r9 =>
    some (r9, σ)
def Mo_look_J145 (N : Nat) (K30 : Int32 → Int32 → Int32 → Int32 → Int32 → St → Option (Int32 × St)) (v1 : Int32) (v2 : Int32) (v3 : Int32) (v4 : Int32) (v5 : Int32) (σ : St) : Option (Int32 × St) :=
  bI (v5 + 1) fun x11 =>
  K30 v1 v2 v3 v4 x11 σ
def Mo_look_J129 (N : Nat) (K30 : Int32 → Int32 → Int32 → Int32 → Int32 → St → Option (Int32 × St)) (K44 : Int32 → Int32 → Int32 → Int32 → Int32 → Int32 → St → Option (Int32 × St)) (v1 : Int32) (v2 : Int32) (v4 : Int32) (v5 : Int32) (v6 : Int32) (v7 : Int32) (w0 : Int32) (σ : St) : Option (Int32 × St) :=
  bI ((Mo_less v4 v7)) fun x20 =>
  bI (v6 + 1) fun x21 =>
  K44 v1 v2 w0 x20 v5 x21 σ
def Mo_look_J101 (N : Nat) (K30 : Int32 → Int32 → Int32 → Int32 → Int32 → St → Option (Int32 × St)) (K44 : Int32 → Int32 → Int32 → Int32 → Int32 → Int32 → St → Option (Int32 × St)) (v1 : Int32) (v2 : Int32) (v3 : Int32) (v4 : Int32) (v5 : Int32) (v6 : Int32) (σ : St) : Option (Int32 × St) :=
  bR (Mo_mostAlike N v2 6 σ) fun r13 =>
  if v4 ≤ r13 then
    Mo_look_J129 N K30 K44 v1 v2 v4 v5 v6 r13 v3 σ
  else
    Mo_look_J129 N K30 K44 v1 v2 v4 v5 v6 r13 ((100 * v5) + v6) σ
def Mo_look_L54B (N : Nat) (K30 : Int32 → Int32 → Int32 → Int32 → Int32 → St → Option (Int32 × St)) (K44 : Int32 → Int32 → Int32 → Int32 → Int32 → Int32 → St → Option (Int32 × St)) (K54 : Int32 → Int32 → Int32 → Int32 → Int32 → Int32 → Int32 → St → Option (Int32 × St)) (v1 : Int32) (v2 : Int32) (v3 : Int32) (v4 : Int32) (v5 : Int32) (v6 : Int32) (v7 : Int32) (σ : St) : Option (Int32 × St) :=
  if 6 ≤ v7 then
    Mo_look_J101 N K30 K44 v1 v2 v3 v4 v5 v6 σ
  else
    ck (inB (48 + v1) 286) <|
    ck (inB (52 + v1) 286) <|
    ck (inB v7 10) <|
    bS (sI σ 132 (v7).toNatClampNeg (Mo_hurts v7 (σ.1 115 ((48 + v1)).toNatClampNeg) (σ.1 115 ((52 + v1)).toNatClampNeg) v6 v5)) fun s28 =>
    bI (v7 + 1) fun x29 =>
    K54 v1 v2 v3 v4 v5 v6 x29 s28
def Mo_look_L54 (N : Nat) (K30 : Int32 → Int32 → Int32 → Int32 → Int32 → St → Option (Int32 × St)) (K44 : Int32 → Int32 → Int32 → Int32 → Int32 → Int32 → St → Option (Int32 × St)) : Nat → Int32 → Int32 → Int32 → Int32 → Int32 → Int32 → Int32 → St → Option (Int32 × St)
  | 0 => fun _ _ _ _ _ _ _ _ => none
  | n + 1 => fun v1 v2 v3 v4 v5 v6 v7 σ => Mo_look_L54B N K30 K44 (Mo_look_L54 N K30 K44 n) v1 v2 v3 v4 v5 v6 v7 σ
def Mo_look_L44B (N : Nat) (K30 : Int32 → Int32 → Int32 → Int32 → Int32 → St → Option (Int32 × St)) (K44 : Int32 → Int32 → Int32 → Int32 → Int32 → Int32 → St → Option (Int32 × St)) (v1 : Int32) (v2 : Int32) (v3 : Int32) (v4 : Int32) (v5 : Int32) (v6 : Int32) (σ : St) : Option (Int32 × St) :=
  if 21 ≤ v6 then
    Mo_look_J145 N K30 v1 v2 v3 v4 v5 σ
  else
    Mo_look_L54 N K30 K44 N v1 v2 v3 v4 v5 v6 0 σ
def Mo_look_L44 (N : Nat) (K30 : Int32 → Int32 → Int32 → Int32 → Int32 → St → Option (Int32 × St)) : Nat → Int32 → Int32 → Int32 → Int32 → Int32 → Int32 → St → Option (Int32 × St)
  | 0 => fun _ _ _ _ _ _ _ => none
  | n + 1 => fun v1 v2 v3 v4 v5 v6 σ => Mo_look_L44B N K30 (Mo_look_L44 N K30 n) v1 v2 v3 v4 v5 v6 σ
def Mo_look_L30B (N : Nat) (K30 : Int32 → Int32 → Int32 → Int32 → Int32 → St → Option (Int32 × St)) (v1 : Int32) (v2 : Int32) (v3 : Int32) (v4 : Int32) (v5 : Int32) (σ : St) : Option (Int32 × St) :=
  if 10 ≤ v5 then
    some (v3, σ)
  else
    if v2 = 0 then
      some (v3, σ)
    else
      Mo_look_L44 N K30 N v1 v2 v3 v4 v5 0 σ
def Mo_look_L30 (N : Nat) : Nat → Int32 → Int32 → Int32 → Int32 → Int32 → St → Option (Int32 × St)
  | 0 => fun _ _ _ _ _ _ => none
  | n + 1 => fun v1 v2 v3 v4 v5 σ => Mo_look_L30B N (Mo_look_L30 N n) v1 v2 v3 v4 v5 σ
def Mo_look (N : Nat) (v1 : Int32) (σ : St) : Option (Int32 × St) :=
  bR (Mo_isGuest N v1 σ) fun r1 =>
  if r1 = 0 then
    bW (Mo_bad N (-2) σ) fun r30 s31 =>
    some (r30, s31)
  else
    bR (Mo_guestsOf N v1 σ) fun r5 =>
    Mo_look_L30 N N v1 r5 (-1) 99 0 σ
def Mo_rowersOf_J109 (N : Nat) (K5 : Int32 → Int32 → Int32 → St → Option Int32) (v1 : Int32) (v2 : Int32) (v3 : Int32) (σ : St) : Option Int32 :=
  bI (v3 + 1) fun x4 =>
  K5 v1 v2 x4 σ
def Mo_rowersOf_J101 (N : Nat) (K5 : Int32 → Int32 → Int32 → St → Option Int32) (K27 : Int32 → Int32 → Int32 → Int32 → Int32 → St → Option Int32) (v1 : Int32) (v3 : Int32) (v4 : Int32) (v5 : Int32) (w0 : Int32) (w1 : Int32) (σ : St) : Option Int32 :=
  bI ((w0 &&& w1)) fun x15 =>
  bI (v5 + 1) fun x16 =>
  K27 v1 x15 v3 v4 x16 σ
def Mo_rowersOf_L27B (N : Nat) (K5 : Int32 → Int32 → Int32 → St → Option Int32) (K27 : Int32 → Int32 → Int32 → Int32 → Int32 → St → Option Int32) (v1 : Int32) (v2 : Int32) (v3 : Int32) (v4 : Int32) (v5 : Int32) (σ : St) : Option Int32 :=
  if 6 ≤ v5 then
    Mo_rowersOf_J109 N K5 v1 v2 v3 σ
  else
    ck (inB v4 286) <|
    if (σ.1 115 (v4).toNatClampNeg) = v1 then
      ck (inB (v4 + 1) 286) <|
      ck (inB (v4 + 2) 286) <|
      ck (inB (v4 + 3) 286) <|
      ck (inB (v4 + 4) 286) <|
      if (Mo_tells v5 (σ.1 115 ((v4 + 1)).toNatClampNeg) (σ.1 115 ((v4 + 2)).toNatClampNeg) (σ.1 115 ((v4 + 3)).toNatClampNeg)) = (σ.1 115 ((v4 + 4)).toNatClampNeg) then
        Mo_rowersOf_J101 N K5 K27 v1 v3 v4 v5 v2 63 σ
      else
        Mo_rowersOf_J101 N K5 K27 v1 v3 v4 v5 v2 ((1 <<< (v5 &&& 31)) ^^^ (-1)) σ
    else
      Mo_rowersOf_J109 N K5 v1 v2 v3 σ
def Mo_rowersOf_L27 (N : Nat) (K5 : Int32 → Int32 → Int32 → St → Option Int32) : Nat → Int32 → Int32 → Int32 → Int32 → Int32 → St → Option Int32
  | 0 => fun _ _ _ _ _ _ => none
  | n + 1 => fun v1 v2 v3 v4 v5 σ => Mo_rowersOf_L27B N K5 (Mo_rowersOf_L27 N K5 n) v1 v2 v3 v4 v5 σ
def Mo_rowersOf_L5B (N : Nat) (K5 : Int32 → Int32 → Int32 → St → Option Int32) (v1 : Int32) (v2 : Int32) (v3 : Int32) (σ : St) : Option Int32 :=
  if (σ.1 115 (126 : Int32).toNatClampNeg) ≤ v3 then
    some v2
  else
    bI ((127 + (5 * v3))) fun x2 =>
    Mo_rowersOf_L27 N K5 N v1 v2 v3 x2 0 σ
def Mo_rowersOf_L5 (N : Nat) : Nat → Int32 → Int32 → Int32 → St → Option Int32
  | 0 => fun _ _ _ _ => none
  | n + 1 => fun v1 v2 v3 σ => Mo_rowersOf_L5B N (Mo_rowersOf_L5 N n) v1 v2 v3 σ
def Mo_rowersOf (N : Nat) (v1 : Int32) (σ : St) : Option Int32 :=
  Mo_rowersOf_L5 N N v1 63 0 σ
def Mo_kinds (N : Nat) (v1 : Int32) (σ : St) : Option (Int32 × St) :=
  bR (Mo_isRower N v1 σ) fun r1 =>
  if r1 = 0 then
    bW (Mo_bad N (-2) σ) fun r5 s6 =>
    some (r5, s6)
  else
    bR (Mo_rowersOf N v1 σ) fun r9 =>
    some (r9, σ)
def Mo_ask_J136 (N : Nat) (K30 : Int32 → Int32 → Int32 → Int32 → Int32 → St → Option (Int32 × St)) (v1 : Int32) (v2 : Int32) (v3 : Int32) (v4 : Int32) (v5 : Int32) (σ : St) : Option (Int32 × St) :=
  bI (v5 + 1) fun x11 =>
  K30 v1 v2 v3 v4 x11 σ
def Mo_ask_J120 (N : Nat) (K30 : Int32 → Int32 → Int32 → Int32 → Int32 → St → Option (Int32 × St)) (K44 : Int32 → Int32 → Int32 → Int32 → Int32 → Int32 → St → Option (Int32 × St)) (v1 : Int32) (v2 : Int32) (v4 : Int32) (v5 : Int32) (v6 : Int32) (v7 : Int32) (w0 : Int32) (σ : St) : Option (Int32 × St) :=
  bI ((Mo_less v4 v7)) fun x20 =>
  bI (v6 + 1) fun x21 =>
  K44 v1 v2 w0 x20 v5 x21 σ
def Mo_ask_J92 (N : Nat) (K30 : Int32 → Int32 → Int32 → Int32 → Int32 → St → Option (Int32 × St)) (K44 : Int32 → Int32 → Int32 → Int32 → Int32 → Int32 → St → Option (Int32 × St)) (v1 : Int32) (v2 : Int32) (v3 : Int32) (v4 : Int32) (v5 : Int32) (v6 : Int32) (σ : St) : Option (Int32 × St) :=
  bR (Mo_mostAlike N v2 6 σ) fun r13 =>
  if v4 ≤ r13 then
    Mo_ask_J120 N K30 K44 v1 v2 v4 v5 v6 r13 v3 σ
  else
    Mo_ask_J120 N K30 K44 v1 v2 v4 v5 v6 r13 ((100 * v5) + v6) σ
def Mo_ask_L54B (N : Nat) (K30 : Int32 → Int32 → Int32 → Int32 → Int32 → St → Option (Int32 × St)) (K44 : Int32 → Int32 → Int32 → Int32 → Int32 → Int32 → St → Option (Int32 × St)) (K54 : Int32 → Int32 → Int32 → Int32 → Int32 → Int32 → Int32 → St → Option (Int32 × St)) (v1 : Int32) (v2 : Int32) (v3 : Int32) (v4 : Int32) (v5 : Int32) (v6 : Int32) (v7 : Int32) (σ : St) : Option (Int32 × St) :=
  if 6 ≤ v7 then
    Mo_ask_J92 N K30 K44 v1 v2 v3 v4 v5 v6 σ
  else
    ck (inB (41 + v1) 286) <|
    ck (inB v7 10) <|
    bS (sI σ 132 (v7).toNatClampNeg (Mo_tells v7 (σ.1 115 ((41 + v1)).toNatClampNeg) v5 v6)) fun s27 =>
    bI (v7 + 1) fun x28 =>
    K54 v1 v2 v3 v4 v5 v6 x28 s27
def Mo_ask_L54 (N : Nat) (K30 : Int32 → Int32 → Int32 → Int32 → Int32 → St → Option (Int32 × St)) (K44 : Int32 → Int32 → Int32 → Int32 → Int32 → Int32 → St → Option (Int32 × St)) : Nat → Int32 → Int32 → Int32 → Int32 → Int32 → Int32 → Int32 → St → Option (Int32 × St)
  | 0 => fun _ _ _ _ _ _ _ _ => none
  | n + 1 => fun v1 v2 v3 v4 v5 v6 v7 σ => Mo_ask_L54B N K30 K44 (Mo_ask_L54 N K30 K44 n) v1 v2 v3 v4 v5 v6 v7 σ
def Mo_ask_L44B (N : Nat) (K30 : Int32 → Int32 → Int32 → Int32 → Int32 → St → Option (Int32 × St)) (K44 : Int32 → Int32 → Int32 → Int32 → Int32 → Int32 → St → Option (Int32 × St)) (v1 : Int32) (v2 : Int32) (v3 : Int32) (v4 : Int32) (v5 : Int32) (v6 : Int32) (σ : St) : Option (Int32 × St) :=
  if 31 ≤ v6 then
    Mo_ask_J136 N K30 v1 v2 v3 v4 v5 σ
  else
    Mo_ask_L54 N K30 K44 N v1 v2 v3 v4 v5 v6 0 σ
def Mo_ask_L44 (N : Nat) (K30 : Int32 → Int32 → Int32 → Int32 → Int32 → St → Option (Int32 × St)) : Nat → Int32 → Int32 → Int32 → Int32 → Int32 → Int32 → St → Option (Int32 × St)
  | 0 => fun _ _ _ _ _ _ _ => none
  | n + 1 => fun v1 v2 v3 v4 v5 v6 σ => Mo_ask_L44B N K30 (Mo_ask_L44 N K30 n) v1 v2 v3 v4 v5 v6 σ
def Mo_ask_L30B (N : Nat) (K30 : Int32 → Int32 → Int32 → Int32 → Int32 → St → Option (Int32 × St)) (v1 : Int32) (v2 : Int32) (v3 : Int32) (v4 : Int32) (v5 : Int32) (σ : St) : Option (Int32 × St) :=
  if 10 ≤ v5 then
    some (v3, σ)
  else
    if v2 = 0 then
      some (v3, σ)
    else
      Mo_ask_L44 N K30 N v1 v2 v3 v4 v5 0 σ
def Mo_ask_L30 (N : Nat) : Nat → Int32 → Int32 → Int32 → Int32 → Int32 → St → Option (Int32 × St)
  | 0 => fun _ _ _ _ _ _ => none
  | n + 1 => fun v1 v2 v3 v4 v5 σ => Mo_ask_L30B N (Mo_ask_L30 N n) v1 v2 v3 v4 v5 σ
def Mo_ask (N : Nat) (v1 : Int32) (σ : St) : Option (Int32 × St) :=
  bR (Mo_isRower N v1 σ) fun r1 =>
  if r1 = 0 then
    bW (Mo_bad N (-2) σ) fun r29 s30 =>
    some (r29, s30)
  else
    bR (Mo_rowersOf N v1 σ) fun r5 =>
    Mo_ask_L30 N N v1 r5 (-1) 99 0 σ
def Mo_hurtAt (N : Nat) (v1 : Int32) (v2 : Int32) (v3 : Int32) (σ : St) : Option Int32 :=
  bI ((9 - (3 * v3))) fun x1 =>
  ck (inB (38 + v2) 286) <|
  ck (inB (41 + v2) 286) <|
  ck (inB (64 + v1) 286) <|
  ck (inB (48 + v1) 286) <|
  ck (inB (52 + v1) 286) <|
  bI ((Mo_less (Mo_tells (σ.1 115 ((38 + v2)).toNatClampNeg) (σ.1 115 ((41 + v2)).toNatClampNeg) x1 (σ.1 115 ((64 + v1)).toNatClampNeg)) ((σ.1 115 ((48 + v1)).toNatClampNeg) - (σ.1 115 ((52 + v1)).toNatClampNeg)))) fun x13 =>
  ck (inB (44 + v1) 286) <|
  ck (inB (48 + v1) 286) <|
  ck (inB (52 + v1) 286) <|
  some (Mo_hurts (σ.1 115 ((44 + v1)).toNatClampNeg) (σ.1 115 ((48 + v1)).toNatClampNeg) (σ.1 115 ((52 + v1)).toNatClampNeg) x13 x1)
def Mo_rests_J90 (N : Nat) (K20 : Int32 → Int32 → Int32 → Int32 → Int32 → Int32 → Int32 → St → Option Int32) (v1 : Int32) (v2 : Int32) (v3 : Int32) (v4 : Int32) (v5 : Int32) (v7 : Int32) (w0 : Int32) (σ : St) : Option Int32 :=
  bI (v7 + 1) fun x9 =>
  K20 v1 v2 v3 v4 v5 w0 x9 σ
def Mo_rests_J89 (N : Nat) (K20 : Int32 → Int32 → Int32 → Int32 → Int32 → Int32 → Int32 → St → Option Int32) (v1 : Int32) (v2 : Int32) (v3 : Int32) (v4 : Int32) (v5 : Int32) (v7 : Int32) (σ : St) : Option Int32 :=
  Mo_rests_J90 N K20 v1 v2 v3 v4 v5 v7 0 σ
def Mo_rests_L20B (N : Nat) (K20 : Int32 → Int32 → Int32 → Int32 → Int32 → Int32 → Int32 → St → Option Int32) (v1 : Int32) (v2 : Int32) (v3 : Int32) (v4 : Int32) (v5 : Int32) (v6 : Int32) (v7 : Int32) (σ : St) : Option Int32 :=
  if 4 ≤ v7 then
    some v6
  else
    if v6 = 0 then
      Mo_rests_J89 N K20 v1 v2 v3 v4 v5 v7 σ
    else
      bR (Mo_hurtAt N v1 v2 (Mo_less v7 v4) σ) fun r13 =>
      if ((-v5) - v3) < ((-r13) - v7) then
        Mo_rests_J89 N K20 v1 v2 v3 v4 v5 v7 σ
      else
        bR (Mo_hurtAt N v1 v2 (Mo_less v3 v7) σ) fun r20 =>
        if ((-v5) - (2 * v4)) < ((-r20) - (2 * v7)) then
          Mo_rests_J89 N K20 v1 v2 v3 v4 v5 v7 σ
        else
          Mo_rests_J90 N K20 v1 v2 v3 v4 v5 v7 1 σ
def Mo_rests_L20 (N : Nat) : Nat → Int32 → Int32 → Int32 → Int32 → Int32 → Int32 → Int32 → St → Option Int32
  | 0 => fun _ _ _ _ _ _ _ _ => none
  | n + 1 => fun v1 v2 v3 v4 v5 v6 v7 σ => Mo_rests_L20B N (Mo_rests_L20 N n) v1 v2 v3 v4 v5 v6 v7 σ
def Mo_rests (N : Nat) (v1 : Int32) (v2 : Int32) (v3 : Int32) (v4 : Int32) (σ : St) : Option Int32 :=
  bR (Mo_hurtAt N v1 v2 (Mo_less v3 v4) σ) fun r4 =>
  Mo_rests_L20 N N v1 v2 v3 v4 r4 1 0 σ
def Mo_lamp_J21 (N : Nat) (σ : St) : Option (Int32 × St) :=
  bW (Mo_bad N (-10) σ) fun r5 s6 =>
  some (r5, s6)
def Mo_lamp_J92 (N : Nat) (v3 : Int32) (v4 : Int32) (σ : St) : Option (Int32 × St) :=
  if 0 ≤ v3 then
    some ((-5), σ)
  else
    some (v4, σ)
def Mo_lamp_J86 (N : Nat) (K34 : Int32 → Int32 → Int32 → Int32 → Int32 → St → Option (Int32 × St)) (v1 : Int32) (v2 : Int32) (v3 : Int32) (v4 : Int32) (v5 : Int32) (σ : St) : Option (Int32 × St) :=
  bI (v5 + 1) fun x17 =>
  K34 v1 v2 v3 v4 x17 σ
def Mo_lamp_J80 (N : Nat) (K34 : Int32 → Int32 → Int32 → Int32 → Int32 → St → Option (Int32 × St)) (K43 : Int32 → Int32 → Int32 → Int32 → Int32 → Int32 → St → Option (Int32 × St)) (v1 : Int32) (v2 : Int32) (v3 : Int32) (v4 : Int32) (v5 : Int32) (v6 : Int32) (σ : St) : Option (Int32 × St) :=
  bI (v6 + 1) fun x22 =>
  K43 v1 v2 v3 v4 v5 x22 σ
def Mo_lamp_J68 (N : Nat) (v5 : Int32) (v6 : Int32) (σ : St) : Option (Int32 × St) :=
  some (((10 * v5) + v6), σ)
def Mo_lamp_L43B (N : Nat) (K34 : Int32 → Int32 → Int32 → Int32 → Int32 → St → Option (Int32 × St)) (K43 : Int32 → Int32 → Int32 → Int32 → Int32 → Int32 → St → Option (Int32 × St)) (v1 : Int32) (v2 : Int32) (v3 : Int32) (v4 : Int32) (v5 : Int32) (v6 : Int32) (σ : St) : Option (Int32 × St) :=
  if 4 ≤ v6 then
    Mo_lamp_J86 N K34 v1 v2 v3 v4 v5 σ
  else
    bR (Mo_rests N v1 v2 v5 v6 σ) fun r18 =>
    if r18 = 0 then
      Mo_lamp_J80 N K34 K43 v1 v2 v3 v4 v5 v6 σ
    else
      if v4 = v3 then
        Mo_lamp_J68 N v5 v6 σ
      else
        bI (v4 + 1) fun x24 =>
        Mo_lamp_J80 N K34 K43 v1 v2 v3 x24 v5 v6 σ
def Mo_lamp_L43 (N : Nat) (K34 : Int32 → Int32 → Int32 → Int32 → Int32 → St → Option (Int32 × St)) : Nat → Int32 → Int32 → Int32 → Int32 → Int32 → Int32 → St → Option (Int32 × St)
  | 0 => fun _ _ _ _ _ _ _ => none
  | n + 1 => fun v1 v2 v3 v4 v5 v6 σ => Mo_lamp_L43B N K34 (Mo_lamp_L43 N K34 n) v1 v2 v3 v4 v5 v6 σ
def Mo_lamp_L34B (N : Nat) (K34 : Int32 → Int32 → Int32 → Int32 → Int32 → St → Option (Int32 × St)) (v1 : Int32) (v2 : Int32) (v3 : Int32) (v4 : Int32) (v5 : Int32) (σ : St) : Option (Int32 × St) :=
  if 4 ≤ v5 then
    Mo_lamp_J92 N v3 v4 σ
  else
    Mo_lamp_L43 N K34 N v1 v2 v3 v4 v5 0 σ
def Mo_lamp_L34 (N : Nat) : Nat → Int32 → Int32 → Int32 → Int32 → Int32 → St → Option (Int32 × St)
  | 0 => fun _ _ _ _ _ _ => none
  | n + 1 => fun v1 v2 v3 v4 v5 σ => Mo_lamp_L34B N (Mo_lamp_L34 N n) v1 v2 v3 v4 v5 σ
def Mo_lamp (N : Nat) (v1 : Int32) (v2 : Int32) (v3 : Int32) (σ : St) : Option (Int32 × St) :=
  bR (Mo_isGuest N v1 σ) fun r1 =>
  if r1 = 0 then
    Mo_lamp_J21 N σ
  else
    bR (Mo_isRower N v2 σ) fun r9 =>
    if r9 = 0 then
      Mo_lamp_J21 N σ
    else
      if (-1) ≤ v3 then
        Mo_lamp_L34 N N v1 v2 v3 0 0 σ
      else
        Mo_lamp_J21 N σ
def Mo_tellsPart_J31 (N : Nat) (v1 : Int64) (v3 : Int64) (v5 : Int64) (σ : St) : Option St :=
  if v5 = 0 then none else
  bS (sL σ 114 6 (v1 / v5)) fun s3 =>
  if v5 = 0 then none else
  bS (sL s3 114 7 (v3 / v5)) fun s5 =>
  some s5
def Mo_tellsPart_L6B (N : Nat) (K6 : Int64 → Int64 → Int64 → Int64 → St → Option St) (v1 : Int64) (v3 : Int64) (v5 : Int64) (v7 : Int64) (σ : St) : Option St :=
  if (lg_cmp v7 0) = 0 then
    Mo_tellsPart_J31 N v1 v3 v5 σ
  else
    if v7 = 0 then none else
    bL ((v5 - v5 / v7 * v7)) fun x7 =>
    K6 v1 v3 v7 x7 σ
def Mo_tellsPart_L6 (N : Nat) : Nat → Int64 → Int64 → Int64 → Int64 → St → Option St
  | 0 => fun _ _ _ _ _ => none
  | n + 1 => fun v1 v3 v5 v7 σ => Mo_tellsPart_L6B N (Mo_tellsPart_L6 N n) v1 v3 v5 v7 σ
def Mo_tellsPart (N : Nat) (v1 : Int64) (v3 : Int64) (σ : St) : Option St :=
  Mo_tellsPart_L6 N N v1 v3 v1 v3 σ
def Mo_weighs_J179 (N : Nat) (v5 : Int64) (v7 : Int64) (σ : St) : Option (Int32 × St) :=
  bR (Mo_tellsPart N v5 v7 σ) fun s4 =>
  some (1, s4)
def Mo_weighs_J170 (N : Nat) (K35 : Int32 → Int32 → Int32 → Int32 → Int64 → Int64 → Int32 → St → Option (Int32 × St)) (v1 : Int32) (v2 : Int32) (v3 : Int32) (v4 : Int32) (v7 : Int64) (v9 : Int32) (w0 : Int64) (w1 : Int64) (σ : St) : Option (Int32 × St) :=
  bL ((w0 + w1)) fun x15 =>
  bI (v9 + 1) fun x16 =>
  K35 v1 v2 v3 v4 x15 v7 x16 σ
def Mo_weighs_J129 (N : Nat) (K35 : Int32 → Int32 → Int32 → Int32 → Int64 → Int64 → Int32 → St → Option (Int32 × St)) (v1 : Int32) (v2 : Int32) (v3 : Int32) (v4 : Int32) (v5 : Int64) (v7 : Int64) (v9 : Int32) (v10 : Int64) (σ : St) : Option (Int32 × St) :=
  if 0 ≤ v3 then
    ck (inB (σ.1 114 22) 9) <|
    if (σ.1 124 ((σ.1 114 22)).toNatClampNeg) < v3 then
      Mo_weighs_J170 N K35 v1 v2 v3 v4 v7 v9 v5 0 σ
    else
      Mo_weighs_J170 N K35 v1 v2 v3 v4 v7 v9 v5 v10 σ
  else
    ck (inB (σ.1 114 22) 9) <|
    Mo_weighs_J170 N K35 v1 v2 v3 v4 v7 v9 v5 (v10 * (((σ.1 125 ((σ.1 114 22)).toNatClampNeg)).toInt64)) σ
def Mo_weighs_J120 (N : Nat) (K35 : Int32 → Int32 → Int32 → Int32 → Int64 → Int64 → Int32 → St → Option (Int32 × St)) (K57 : Int32 → Int32 → Int32 → Int32 → Int64 → Int64 → Int32 → Int64 → Int32 → St → Option (Int32 × St)) (v1 : Int32) (v2 : Int32) (v3 : Int32) (v4 : Int32) (v5 : Int64) (v7 : Int64) (v9 : Int32) (v10 : Int64) (v12 : Int32) (w1 : Int32) (w2 : Int32) (w3 : Int32) (w4 : Int32) (w5 : Int32) (σ : St) : Option (Int32 × St) :=
  bR (Mo_goesOn N w1 w2 w3 w4 w5 σ) fun s29 =>
  bI (v12 + 1) fun x32 =>
  K57 v1 v2 v3 v4 v5 v7 v9 v10 x32 s29
def Mo_weighs_J90 (N : Nat) (K35 : Int32 → Int32 → Int32 → Int32 → Int64 → Int64 → Int32 → St → Option (Int32 × St)) (K57 : Int32 → Int32 → Int32 → Int32 → Int64 → Int64 → Int32 → Int64 → Int32 → St → Option (Int32 × St)) (v1 : Int32) (v2 : Int32) (v3 : Int32) (v4 : Int32) (v5 : Int64) (v7 : Int64) (v9 : Int32) (v12 : Int32) (w0 : Int64) (w1 : Int64) (σ : St) : Option (Int32 × St) :=
  bL ((w0 * w1)) fun x22 =>
  ck (inB v12 8) <|
  if (Mo_has v9 v12) = 0 then
    Mo_weighs_J120 N K35 K57 v1 v2 v3 v4 v5 v7 v9 x22 v12 v1 v2 v12 (σ.1 129 (v12).toNatClampNeg) 1 σ
  else
    Mo_weighs_J120 N K35 K57 v1 v2 v3 v4 v5 v7 v9 x22 v12 v1 v2 v12 (σ.1 129 (v12).toNatClampNeg) 0 σ
def Mo_weighs_L57B (N : Nat) (K35 : Int32 → Int32 → Int32 → Int32 → Int64 → Int64 → Int32 → St → Option (Int32 × St)) (K57 : Int32 → Int32 → Int32 → Int32 → Int64 → Int64 → Int32 → Int64 → Int32 → St → Option (Int32 × St)) (v1 : Int32) (v2 : Int32) (v3 : Int32) (v4 : Int32) (v5 : Int64) (v7 : Int64) (v9 : Int32) (v10 : Int64) (v12 : Int32) (σ : St) : Option (Int32 × St) :=
  if (σ.1 114 22) ≤ v12 then
    Mo_weighs_J129 N K35 v1 v2 v3 v4 v5 v7 v9 v10 σ
  else
    if (Mo_has v9 v12) = 0 then
      Mo_weighs_J90 N K35 K57 v1 v2 v3 v4 v5 v7 v9 v12 v10 (((10 - v4)).toInt64) σ
    else
      Mo_weighs_J90 N K35 K57 v1 v2 v3 v4 v5 v7 v9 v12 v10 ((v4).toInt64) σ
def Mo_weighs_L57 (N : Nat) (K35 : Int32 → Int32 → Int32 → Int32 → Int64 → Int64 → Int32 → St → Option (Int32 × St)) : Nat → Int32 → Int32 → Int32 → Int32 → Int64 → Int64 → Int32 → Int64 → Int32 → St → Option (Int32 × St)
  | 0 => fun _ _ _ _ _ _ _ _ _ _ => none
  | n + 1 => fun v1 v2 v3 v4 v5 v7 v9 v10 v12 σ => Mo_weighs_L57B N K35 (Mo_weighs_L57 N K35 n) v1 v2 v3 v4 v5 v7 v9 v10 v12 σ
def Mo_weighs_L35B (N : Nat) (K35 : Int32 → Int32 → Int32 → Int32 → Int64 → Int64 → Int32 → St → Option (Int32 × St)) (v1 : Int32) (v2 : Int32) (v3 : Int32) (v4 : Int32) (v5 : Int64) (v7 : Int64) (v9 : Int32) (σ : St) : Option (Int32 × St) :=
  if (1 <<< ((σ.1 114 22) &&& 31)) ≤ v9 then
    Mo_weighs_J179 N v5 v7 σ
  else
    bR (Mo_starts N v1 σ) fun s8 =>
    Mo_weighs_L57 N K35 N v1 v2 v3 v4 v5 v7 v9 1 0 s8
def Mo_weighs_L35 (N : Nat) : Nat → Int32 → Int32 → Int32 → Int32 → Int64 → Int64 → Int32 → St → Option (Int32 × St)
  | 0 => fun _ _ _ _ _ _ _ _ => none
  | n + 1 => fun v1 v2 v3 v4 v5 v7 v9 σ => Mo_weighs_L35B N (Mo_weighs_L35 N n) v1 v2 v3 v4 v5 v7 v9 σ
def Mo_weighs_J32 (N : Nat) (v1 : Int32) (v2 : Int32) (v3 : Int32) (v4 : Int32) (v5 : Int64) (v7 : Int64) (σ : St) : Option (Int32 × St) :=
  Mo_weighs_L35 N N v1 v2 v3 v4 v5 v7 0 σ
def Mo_weighs_L9B (N : Nat) (K9 : Int32 → Int32 → Int32 → Int32 → Int64 → Int64 → Int32 → St → Option (Int32 × St)) (v1 : Int32) (v2 : Int32) (v3 : Int32) (v4 : Int32) (v5 : Int64) (v7 : Int64) (v9 : Int32) (σ : St) : Option (Int32 × St) :=
  if (σ.1 114 22) ≤ v9 then
    Mo_weighs_J32 N v1 v2 v3 v4 v5 v7 σ
  else
    bL ((v7 * 10)) fun x33 =>
    bI (v9 + 1) fun x34 =>
    K9 v1 v2 v3 v4 v5 x33 x34 σ
def Mo_weighs_L9 (N : Nat) : Nat → Int32 → Int32 → Int32 → Int32 → Int64 → Int64 → Int32 → St → Option (Int32 × St)
  | 0 => fun _ _ _ _ _ _ _ _ => none
  | n + 1 => fun v1 v2 v3 v4 v5 v7 v9 σ => Mo_weighs_L9B N (Mo_weighs_L9 N n) v1 v2 v3 v4 v5 v7 v9 σ
def Mo_weighs (N : Nat) (v1 : Int32) (v2 : Int32) (v3 : Int32) (v4 : Int32) (σ : St) : Option (Int32 × St) :=
  Mo_weighs_L9 N N v1 v2 v3 v4 0 1 0 σ
def Mo_odds_J41 (N : Nat) (σ : St) : Option (Int32 × St) :=
  bW (Mo_bad N (-2) σ) fun r5 s6 =>
  some (r5, s6)
def Mo_odds (N : Nat) (v1 : Int32) (v2 : Int32) (v3 : Int32) (v4 : Int32) (σ : St) : Option (Int32 × St) :=
  bR (Mo_isGuest N v1 σ) fun r1 =>
  if r1 = 0 then
    Mo_odds_J41 N σ
  else
    bR (Mo_isRower N v2 σ) fun r9 =>
    if r9 = 0 then
      Mo_odds_J41 N σ
    else
      if (Mo_in ((v3).toInt64) 0 40) = 0 then
        Mo_odds_J41 N σ
      else
        if (Mo_in ((v4).toInt64) 0 10) = 0 then
          Mo_odds_J41 N σ
        else
          bR (Mo_finds N v1 v2 σ) fun s22 =>
          if (s22.1 114 22) = 0 then
            bW (Mo_no N s22) fun r30 s31 =>
            some (r30, s31)
          else
            bW (Mo_weighs N v1 v2 v3 v4 s22) fun r26 s27 =>
            some (r26, s27)
def Mo_mean_J28 (N : Nat) (σ : St) : Option (Int32 × St) :=
  bW (Mo_bad N (-2) σ) fun r5 s6 =>
  some (r5, s6)
def Mo_mean (N : Nat) (v1 : Int32) (v2 : Int32) (v3 : Int32) (σ : St) : Option (Int32 × St) :=
  bR (Mo_isGuest N v1 σ) fun r1 =>
  if r1 = 0 then
    Mo_mean_J28 N σ
  else
    bR (Mo_isRower N v2 σ) fun r9 =>
    if r9 = 0 then
      Mo_mean_J28 N σ
    else
      if (Mo_in ((v3).toInt64) 0 10) = 0 then
        Mo_mean_J28 N σ
      else
        bR (Mo_finds N v1 v2 σ) fun s18 =>
        if (s18.1 114 22) = 0 then
          bW (Mo_no N s18) fun r26 s27 =>
          some (r26, s27)
        else
          bW (Mo_weighs N v1 v2 (-1) v3 s18) fun r22 s23 =>
          some (r22, s23)
def Mo_nights_J24 (N : Nat) (σ : St) : Option (Int32 × St) :=
  bW (Mo_bad N (-2) σ) fun r5 s6 =>
  some (r5, s6)
def Mo_nights_J260 (N : Nat) (v5 : Int32) (σ : St) : Option (Int32 × St) :=
  bR (Mo_copies N 116 0 115 52 16 σ) fun s21 =>
  some (v5, s21)
def Mo_nights_J251 (N : Nat) (K209 : Int32 → Int32 → St → Option (Int32 × St)) (v6 : Int32) (w0 : Int32) (w1 : Int32) (σ : St) : Option (Int32 × St) :=
  bI ((w0 + w1)) fun x27 =>
  bI (v6 + 1) fun x28 =>
  K209 x27 x28 σ
def Mo_nights_L209B (N : Nat) (K209 : Int32 → Int32 → St → Option (Int32 × St)) (v5 : Int32) (v6 : Int32) (σ : St) : Option (Int32 × St) :=
  if (σ.1 115 (37 : Int32).toNatClampNeg) ≤ v6 then
    Mo_nights_J260 N v5 σ
  else
    ck (inB (52 + v6) 286) <|
    ck (inB (48 + v6) 286) <|
    if (σ.1 115 ((52 + v6)).toNatClampNeg) = (σ.1 115 ((48 + v6)).toNatClampNeg) then
      Mo_nights_J251 N K209 v6 v5 1 σ
    else
      Mo_nights_J251 N K209 v6 v5 0 σ
def Mo_nights_L209 (N : Nat) : Nat → Int32 → Int32 → St → Option (Int32 × St)
  | 0 => fun _ _ _ => none
  | n + 1 => fun v5 v6 σ => Mo_nights_L209B N (Mo_nights_L209 N n) v5 v6 σ
def Mo_nights_J203 (N : Nat) (σ : St) : Option (Int32 × St) :=
  Mo_nights_L209 N N 0 0 σ
def Mo_nights_J197 (N : Nat) (K53 : Int32 → Int64 → Int32 → St → Option (Int32 × St)) (v2 : Int32) (v3 : Int64) (v5 : Int32) (σ : St) : Option (Int32 × St) :=
  bI (v5 + 1) fun x41 =>
  K53 v2 v3 x41 σ
def Mo_nights_J151 (N : Nat) (K53 : Int32 → Int64 → Int32 → St → Option (Int32 × St)) (v2 : Int32) (v3 : Int64) (v5 : Int32) (v6 : Int32) (σ : St) : Option (Int32 × St) :=
  bR (Mo_isGuest N v6 σ) fun r37 =>
  if r37 = 0 then
    Mo_nights_J197 N K53 v2 v3 v5 σ
  else
    ck (inB (60 + v6) 286) <|
    if (σ.1 115 ((60 + v6)).toNatClampNeg) = 7 then
      ck (inB (60 + v6) 286) <|
      bS (sI σ 115 ((60 + v6)).toNatClampNeg 0) fun s45 =>
      ck (inB (64 + v6) 286) <|
      bS (sI s45 115 ((64 + v6)).toNatClampNeg 0) fun s47 =>
      Mo_nights_J197 N K53 v2 v3 v5 s47
    else
      Mo_nights_J197 N K53 v2 v3 v5 σ
def Mo_nights_L53B (N : Nat) (K53 : Int32 → Int64 → Int32 → St → Option (Int32 × St)) (v2 : Int32) (v3 : Int64) (v5 : Int32) (σ : St) : Option (Int32 × St) :=
  if v2 ≤ v5 then
    Mo_nights_J203 N σ
  else
    bL ((((v3 * 1103515245) + 12345) - ((v3 * 1103515245) + 12345) / 2147483648 * 2147483648)) fun x29 =>
    bI (((((x29 / 65536) - (x29 / 65536) / 4 * 4)).toInt32)) fun x30 =>
    bI (((((x29 / 262144) - (x29 / 262144) / 3 * 3)).toInt32)) fun x31 =>
    bI (((((x29 / 1048576) - (x29 / 1048576) / 8 * 8)).toInt32)) fun x32 =>
    bR (Mo_isGuest N x30 σ) fun r33 =>
    if r33 = 0 then
      Mo_nights_J151 N K53 v2 x29 v5 x30 σ
    else
      bR (Mo_isRower N x31 σ) fun r48 =>
      if r48 = 0 then
        Mo_nights_J151 N K53 v2 x29 v5 x30 σ
      else
        bR (Mo_can N x30 x32 σ) fun r52 =>
        if r52 = 0 then
          Mo_nights_J151 N K53 v2 x29 v5 x30 σ
        else
          bR (Mo_rowed N x30 x31 x32 σ) fun s57 =>
          Mo_nights_J197 N K53 v2 x29 v5 s57
def Mo_nights_L53 (N : Nat) : Nat → Int32 → Int64 → Int32 → St → Option (Int32 × St)
  | 0 => fun _ _ _ _ => none
  | n + 1 => fun v2 v3 v5 σ => Mo_nights_L53B N (Mo_nights_L53 N n) v2 v3 v5 σ
def Mo_nights (N : Nat) (v1 : Int32) (v2 : Int32) (σ : St) : Option (Int32 × St) :=
  if (Mo_in ((v1).toInt64) 0 999999) = 0 then
    Mo_nights_J24 N σ
  else
    if (Mo_in ((v2).toInt64) 0 60) = 0 then
      Mo_nights_J24 N σ
    else
      bR (Mo_copies N 115 52 116 0 16 σ) fun s14 =>
      bL (((v1).toInt64)) fun x17 =>
      Mo_nights_L53 N N v2 x17 0 s14
def Mo_part (N : Nat) (v1 : Int32) (σ : St) : Option (Int64 × St) :=
  if v1 = 0 then
    some ((σ.2 114 6), σ)
  else
    if v1 = 1 then
      some ((σ.2 114 7), σ)
    else
      bW (Mo_bad N (-2) σ) fun r3 s4 =>
      some (((r3).toInt64), s4)
def Mo_image (N : Nat) (v1 : Int32) (σ : St) : Option (Int32 × St) :=
  if (Mo_in ((v1).toInt64) 0 1) = 0 then
    bW (Mo_bad N (-2) σ) fun r11 s12 =>
    some (r11, s12)
  else
    bR (Mo_copies N 115 0 117 (286 * v1) 286 σ) fun s6 =>
    ck (inB v1 2) <|
    bS (sI s6 118 (v1).toNatClampNeg (vp_nar .boolean 1)) fun s10 =>
    some (1, s10)
def Mo_from (N : Nat) (v1 : Int32) (σ : St) : Option (Int32 × St) :=
  if (Mo_in ((v1).toInt64) 0 1) = 0 then
    bW (Mo_bad N (-2) σ) fun r15 s16 =>
    some (r15, s16)
  else
    ck (inB v1 2) <|
    if (σ.1 118 (v1).toNatClampNeg) = 0 then
      bW (Mo_no N σ) fun r11 s12 =>
      some (r11, s12)
    else
      bR (Mo_copies N 117 (286 * v1) 115 0 286 σ) fun s8 =>
      some (1, s8)
def Mo_status (N : Nat) (v1 : Int32) (σ : St) : Option (Int32 × St) :=
  if (Mo_in ((v1).toInt64) 0 2) = 0 then
    bW (Mo_bad N (-1) σ) fun r5 s6 =>
    some (r5, s6)
  else
    ck (inB v1 3) <|
    some ((σ.1 120 (v1).toNatClampNeg), σ)
def Mo_sum_L5B (N : Nat) (K5 : Int32 → Int32 → Int32 → Int32 → St → Option Int32) (v1 : Int32) (v2 : Int32) (v3 : Int32) (v4 : Int32) (σ : St) : Option Int32 :=
  if v2 ≤ v4 then
    some v3
  else
    ck (inB (v1 + v4) 286) <|
    bI ((v3 + (σ.1 115 ((v1 + v4)).toNatClampNeg))) fun x3 =>
    bI (v4 + 1) fun x4 =>
    K5 v1 v2 x3 x4 σ
def Mo_sum_L5 (N : Nat) : Nat → Int32 → Int32 → Int32 → Int32 → St → Option Int32
  | 0 => fun _ _ _ _ _ => none
  | n + 1 => fun v1 v2 v3 v4 σ => Mo_sum_L5B N (Mo_sum_L5 N n) v1 v2 v3 v4 σ
def Mo_sum (N : Nat) (v1 : Int32) (v2 : Int32) (σ : St) : Option Int32 :=
  Mo_sum_L5 N N v1 v2 0 0 σ
def Mo_counted_J82 (N : Nat) (K58 : Int32 → Int32 → St → Option Int32) (v3 : Int32) (w0 : Int32) (w1 : Int32) (σ : St) : Option Int32 :=
  bI ((w0 + w1)) fun x5 =>
  bI (v3 + 1) fun x6 =>
  K58 x5 x6 σ
def Mo_counted_L58B (N : Nat) (K58 : Int32 → Int32 → St → Option Int32) (v2 : Int32) (v3 : Int32) (σ : St) : Option Int32 :=
  if 28 ≤ v3 then
    some v2
  else
    ck (inB (8 + v3) 286) <|
    if (σ.1 115 ((8 + v3)).toNatClampNeg) ≤ 0 then
      Mo_counted_J82 N K58 v3 v2 0 σ
    else
      Mo_counted_J82 N K58 v3 v2 1 σ
def Mo_counted_L58 (N : Nat) : Nat → Int32 → Int32 → St → Option Int32
  | 0 => fun _ _ _ => none
  | n + 1 => fun v2 v3 σ => Mo_counted_L58B N (Mo_counted_L58 N n) v2 v3 σ
def Mo_counted_J150 (N : Nat) (K110 : Int32 → Int32 → St → Option Int32) (v3 : Int32) (w0 : Int32) (w1 : Int32) (σ : St) : Option Int32 :=
  bI ((w0 ||| w1)) fun x14 =>
  bI (v3 + 1) fun x15 =>
  K110 x14 x15 σ
def Mo_counted_L110B (N : Nat) (K110 : Int32 → Int32 → St → Option Int32) (v2 : Int32) (v3 : Int32) (σ : St) : Option Int32 :=
  if (σ.1 115 (37 : Int32).toNatClampNeg) ≤ v3 then
    some v2
  else
    ck (inB (52 + v3) 286) <|
    ck (inB (48 + v3) 286) <|
    if (σ.1 115 ((52 + v3)).toNatClampNeg) = (σ.1 115 ((48 + v3)).toNatClampNeg) then
      Mo_counted_J150 N K110 v3 v2 (1 <<< (v3 &&& 31)) σ
    else
      Mo_counted_J150 N K110 v3 v2 0 σ
def Mo_counted_L110 (N : Nat) : Nat → Int32 → Int32 → St → Option Int32
  | 0 => fun _ _ _ => none
  | n + 1 => fun v2 v3 σ => Mo_counted_L110B N (Mo_counted_L110 N n) v2 v3 σ
def Mo_counted (N : Nat) (v1 : Int32) (σ : St) : Option Int32 :=
  if v1 = 0 then
    Mo_counted_L58 N N 0 0 σ
  else
    if v1 = 1 then
      some (σ.1 115 (36 : Int32).toNatClampNeg)
    else
      if v1 = 2 then
        some (σ.1 115 (37 : Int32).toNatClampNeg)
      else
        if v1 = 3 then
          Mo_counted_L110 N N 0 0 σ
        else
          if v1 = 4 then
            bR (Mo_sum N 52 (σ.1 115 (37 : Int32).toNatClampNeg) σ) fun r17 =>
            some r17
          else
            if v1 = 5 then
              bR (Mo_sum N 56 (σ.1 115 (37 : Int32).toNatClampNeg) σ) fun r21 =>
              some r21
            else
              if v1 = 6 then
                some (σ.1 115 (68 : Int32).toNatClampNeg)
              else
                if v1 = 7 then
                  some (σ.1 115 (89 : Int32).toNatClampNeg)
                else
                  if v1 = 8 then
                    some (σ.1 115 (126 : Int32).toNatClampNeg)
                  else
                    if v1 = 9 then
                      some (σ.1 115 (157 : Int32).toNatClampNeg)
                    else
                      some (σ.1 114 5)
def Mo_count (N : Nat) (v1 : Int32) (σ : St) : Option (Int32 × St) :=
  if (Mo_in ((v1).toInt64) 0 10) = 0 then
    bW (Mo_bad N (-2) σ) fun r5 s6 =>
    some (r5, s6)
  else
    bR (Mo_counted N v1 σ) fun r9 =>
    some (r9, σ)
def Mo_adds_L6B (N : Nat) (K6 : Int32 → Int32 → Int64 → Int32 → St → Option Int64) (v3 : Int32) (v4 : Int32) (v5 : Int64) (v7 : Int32) (σ : St) : Option Int64 :=
  if v4 ≤ v7 then
    some v5
  else
    ck (inB (v3 + v7) 286) <|
    bL (((31 * v5) + (((σ.1 115 ((v3 + v7)).toNatClampNeg)).toInt64))) fun x3 =>
    bI (v7 + 1) fun x4 =>
    K6 v3 v4 x3 x4 σ
def Mo_adds_L6 (N : Nat) : Nat → Int32 → Int32 → Int64 → Int32 → St → Option Int64
  | 0 => fun _ _ _ _ _ => none
  | n + 1 => fun v3 v4 v5 v7 σ => Mo_adds_L6B N (Mo_adds_L6 N n) v3 v4 v5 v7 σ
def Mo_adds (N : Nat) (v1 : Int64) (v3 : Int32) (v4 : Int32) (σ : St) : Option Int64 :=
  Mo_adds_L6 N N v3 v4 v1 0 σ
def Mo_digest_J158 (N : Nat) (v1 : Int64) (σ : St) : Option Int64 :=
  bR (Mo_adds N v1 69 (4 * (σ.1 115 (68 : Int32).toNatClampNeg)) σ) fun r10 =>
  bR (Mo_adds N r10 90 (6 * (σ.1 115 (89 : Int32).toNatClampNeg)) σ) fun r13 =>
  bR (Mo_adds N r13 127 (5 * (σ.1 115 (126 : Int32).toNatClampNeg)) σ) fun r16 =>
  some ((31 * ((31 * r16) + (σ.2 114 6))) + (σ.2 114 7))
def Mo_digest_J152 (N : Nat) (K103 : Int64 → Int32 → St → Option Int64) (v1 : Int64) (v3 : Int32) (σ : St) : Option Int64 :=
  bI (v3 + 1) fun x20 =>
  K103 v1 x20 σ
def Mo_digest_L117B (N : Nat) (K103 : Int64 → Int32 → St → Option Int64) (K117 : Int64 → Int32 → Int32 → St → Option Int64) (v1 : Int64) (v3 : Int32) (v4 : Int32) (σ : St) : Option Int64 :=
  if 6 ≤ v4 then
    Mo_digest_J152 N K103 v1 v3 σ
  else
    ck (inB ((44 + (4 * v4)) + v3) 286) <|
    bL (((31 * v1) + (((σ.1 115 (((44 + (4 * v4)) + v3)).toNatClampNeg)).toInt64))) fun x22 =>
    bI (v4 + 1) fun x23 =>
    K117 x22 v3 x23 σ
def Mo_digest_L117 (N : Nat) (K103 : Int64 → Int32 → St → Option Int64) : Nat → Int64 → Int32 → Int32 → St → Option Int64
  | 0 => fun _ _ _ _ => none
  | n + 1 => fun v1 v3 v4 σ => Mo_digest_L117B N K103 (Mo_digest_L117 N K103 n) v1 v3 v4 σ
def Mo_digest_L103B (N : Nat) (K103 : Int64 → Int32 → St → Option Int64) (v1 : Int64) (v3 : Int32) (σ : St) : Option Int64 :=
  if (σ.1 115 (37 : Int32).toNatClampNeg) ≤ v3 then
    Mo_digest_J158 N v1 σ
  else
    Mo_digest_L117 N K103 N v1 v3 0 σ
def Mo_digest_L103 (N : Nat) : Nat → Int64 → Int32 → St → Option Int64
  | 0 => fun _ _ _ => none
  | n + 1 => fun v1 v3 σ => Mo_digest_L103B N (Mo_digest_L103 N n) v1 v3 σ
def Mo_digest_J101 (N : Nat) (v1 : Int64) (σ : St) : Option Int64 :=
  Mo_digest_L103 N N v1 0 σ
def Mo_digest_L52B (N : Nat) (K52 : Int64 → Int32 → St → Option Int64) (v1 : Int64) (v3 : Int32) (σ : St) : Option Int64 :=
  if (σ.1 115 (36 : Int32).toNatClampNeg) ≤ v3 then
    Mo_digest_J101 N v1 σ
  else
    ck (inB (38 + v3) 286) <|
    ck (inB (41 + v3) 286) <|
    bL (((31 * ((31 * v1) + (((σ.1 115 ((38 + v3)).toNatClampNeg)).toInt64))) + (((σ.1 115 ((41 + v3)).toNatClampNeg)).toInt64))) fun x26 =>
    bI (v3 + 1) fun x27 =>
    K52 x26 x27 σ
def Mo_digest_L52 (N : Nat) : Nat → Int64 → Int32 → St → Option Int64
  | 0 => fun _ _ _ => none
  | n + 1 => fun v1 v3 σ => Mo_digest_L52B N (Mo_digest_L52 N n) v1 v3 σ
def Mo_digest_J31 (N : Nat) (v1 : Int64) (σ : St) : Option Int64 :=
  bR (Mo_adds N v1 0 8 σ) fun r2 =>
  bR (Mo_adds N r2 8 28 σ) fun r5 =>
  Mo_digest_L52 N N r5 0 σ
def Mo_digest_L6B (N : Nat) (K6 : Int64 → Int32 → St → Option Int64) (v1 : Int64) (v3 : Int32) (σ : St) : Option Int64 :=
  if 11 ≤ v3 then
    Mo_digest_J31 N v1 σ
  else
    bR (Mo_counted N v3 σ) fun r28 =>
    bL (((31 * v1) + ((r28).toInt64))) fun x31 =>
    bI (v3 + 1) fun x32 =>
    K6 x31 x32 σ
def Mo_digest_L6 (N : Nat) : Nat → Int64 → Int32 → St → Option Int64
  | 0 => fun _ _ _ => none
  | n + 1 => fun v1 v3 σ => Mo_digest_L6B N (Mo_digest_L6 N n) v1 v3 σ
def Mo_digest (N : Nat) (σ : St) : Option Int64 :=
  Mo_digest_L6 N N 1847 0 σ
