def fOd_power_5 (N : Nat) : Nat → Int32 → Int32 → Int64 → Int32 → Option (Int64)
  | 0, _, _, _, _ => none
  | n_5 + 1, v0, v1, v2, v4 =>
    if v1 ≤ v4 then
      some v2
    else
      nm ((v2 * (v0.toInt64))) fun x2_2 =>
      nm (v4 + 1) fun x4_3 =>
      fOd_power_5 N n_5 v0 v1 x2_2 x4_3
def fOd_power (N : Nat) (p0 : Int32) (p1 : Int32) : Option (Int64) :=
  fOd_power_5 N N p0 p1 (1 : Int64) (0 : Int32)
def fOd_noMoreThan_66 (N : Nat) (v3 : Int64) : Option (Int64) :=
  some v3
def fOd_noMoreThan_8 (N : Nat) : Nat → Int32 → Int32 → Int32 → Int64 → Int64 → Int32 → Option (Int64)
  | 0, _, _, _, _, _, _ => none
  | n_8 + 1, v0, v1, v2, v3, v5, v7 =>
    if v0 < v7 then
      fOd_noMoreThan_66 N v3
    else
      if v1 < v7 then
        fOd_noMoreThan_66 N v3
      else
        cl1 (fOd_power N v2 v7) fun r_3 =>
        cl1 (fOd_power N ((10 : Int32) - v2) (v0 - v7)) fun r_5 =>
        nm ((v3 + ((v5 * r_3) * r_5))) fun x3_7 =>
        gZL (((v7 + (1 : Int32)).toInt64)) <|
        nm (((v5 * ((v0 - v7).toInt64)) / ((v7 + (1 : Int32)).toInt64))) fun x5_9 =>
        nm (v7 + 1) fun x7_10 =>
        fOd_noMoreThan_8 N n_8 v0 v1 v2 x3_7 x5_9 x7_10
def fOd_noMoreThan (N : Nat) (p0 : Int32) (p1 : Int32) (p2 : Int32) : Option (Int64) :=
  fOd_noMoreThan_8 N N p0 p1 p2 (0 : Int64) (1 : Int64) (0 : Int32)
def fOd_commonDivisor_45 (N : Nat) (v4 : Int64) : Option (Int64) :=
  some v4
def fOd_commonDivisor_9 (N : Nat) : Nat → Int64 → Int64 → Int32 → Option (Int64)
  | 0, _, _, _ => none
  | n_9 + 1, v4, v6, v8 =>
    if (1000 : Int32) ≤ v8 then
      fOd_commonDivisor_45 N v4
    else
      if (lg_cmp v6 (0 : Int64)) ≤ 0 then
        fOd_commonDivisor_45 N v4
      else
        gZL (v6) <|
        nm ((v4 - v4 / v6 * v6)) fun x9_4 =>
        nm (v8 + 1) fun x8_5 =>
        fOd_commonDivisor_9 N n_9 v6 x9_4 x8_5
def fOd_commonDivisor (N : Nat) (p0 : Int64) (p1 : Int64) : Option (Int64) :=
  fOd_commonDivisor_9 N N p0 p1 (0 : Int32)
def fTe_length (N : Nat) (τ : St) : Option (Int32) :=
  some (τ 0 1)
def fTe_clear (N : Nat) (τ : St) : Option (St) :=
  nm (sA τ 0 (upd (τ 0) 1 (0 : Int32))) fun τ_1 =>
  some τ_1
def fTe_append_18 (N : Nat) (τ : St) : Option (Int32 × St) :=
  some ((0 : Int32), τ)
def fTe_append_25 (N : Nat) : Nat → Int64 → Int32 → St → Option (Int32 × St)
  | 0, _, _, _ => none
  | n_25 + 1, v2, v4, τ =>
    if v4 < 0 then
      some ((1 : Int32), τ)
    else
      gI (τ 0 1) 400 <|
      nm (sA τ 1 (upd (τ 1) (τ 0 1).toNatClampNeg (vp_nar .byte ((((v2.toUInt64 >>> (((8 : Int32) * v4).toInt64.toUInt64 &&& Int64.toUInt64 63)).toInt64).toInt32).toInt8.toInt32)))) fun τ_3 =>
      nm (sA τ_3 0 (upd (τ_3 0) 1 ((τ_3 0 1) + (1 : Int32)))) fun τ_4 =>
      nm (v4 + (-1)) fun x4_5 =>
      fTe_append_25 N n_25 v2 x4_5 τ_4
def fTe_append (N : Nat) (p0 : Int32) (p1 : Int64) (τ : St) : Option (Int32 × St) :=
  if p0 < 0 then
    fTe_append_18 N τ
  else
    if p0 ≤ ((400 : Int32) - (τ 0 1)) then
      nm ((p0 - (1 : Int32))) fun x4_8 =>
      fTe_append_25 N N p1 x4_8 τ
    else
      fTe_append_18 N τ
def fTe_byteAt_27 (N : Nat) (τ : St) (k0 : Int32) : Option (Int32) :=
  some k0
def fTe_byteAt_25 (N : Nat) (τ : St) : Option (Int32) :=
  fTe_byteAt_27 N τ (-4 : Int32)
def fTe_byteAt (N : Nat) (p0 : Int32) (τ : St) : Option (Int32) :=
  if p0 < 0 then
    fTe_byteAt_25 N τ
  else
    if (τ 0 1) ≤ p0 then
      fTe_byteAt_25 N τ
    else
      gI p0 400 <|
      fTe_byteAt_27 N τ ((τ 1 p0.toNatClampNeg) &&& (255 : Int32))
def fRo_clear (N : Nat) (ρ : St) : Option (St) :=
  nm (sA ρ 0 (upd (ρ 0) 2 (0 : Int32))) fun ρ_1 =>
  nm (sA ρ_1 0 (upd (ρ_1 0) 3 (0 : Int32))) fun ρ_2 =>
  nm (sA ρ_2 0 (upd (ρ_2 0) 4 (30 : Int32))) fun ρ_3 =>
  nm (sA ρ_3 0 (upd (ρ_3 0) 5 (20 : Int32))) fun ρ_4 =>
  nm (sA ρ_4 0 (upd (ρ_4 0) 6 (15 : Int32))) fun ρ_5 =>
  nm (sA ρ_5 0 (upd (ρ_5 0) 7 (20 : Int32))) fun ρ_6 =>
  nm (sA ρ_6 0 (upd (ρ_6 0) 8 (0 : Int32))) fun ρ_7 =>
  some ρ_7
def fRo_addSeat (N : Nat) (p0 : Int32) (ρ : St) : Option (Int32 × St) :=
  if (ρ 0 2) < (10 : Int32) then
    gI (ρ 0 2) 10 <|
    nm (sA ρ 1 (upd (ρ 1) (ρ 0 2).toNatClampNeg p0)) fun ρ_3 =>
    nm (sA ρ_3 0 (upd (ρ_3 0) 2 ((ρ_3 0 2) + (1 : Int32)))) fun ρ_4 =>
    some ((1 : Int32), ρ_4)
  else
    some ((0 : Int32), ρ)
def fRo_setCards (N : Nat) (p0 : Int32) (p1 : Int32) (ρ : St) : Option (Int32 × St) :=
  nm (sA ρ 0 (upd (ρ 0) 4 p0)) fun ρ_1 =>
  nm (sA ρ_1 0 (upd (ρ_1 0) 5 p1)) fun ρ_2 =>
  some ((1 : Int32), ρ_2)
def fRo_setLamps (N : Nat) (p0 : Int32) (ρ : St) : Option (Int32 × St) :=
  nm (sA ρ 0 (upd (ρ 0) 6 p0)) fun ρ_1 =>
  some ((1 : Int32), ρ_1)
def fRo_setSeeking (N : Nat) (p0 : Int32) (ρ : St) : Option (Int32 × St) :=
  nm (sA ρ 0 (upd (ρ 0) 7 p0)) fun ρ_1 =>
  some ((1 : Int32), ρ_1)
def fRo_setLater (N : Nat) (p0 : Int32) (ρ : St) : Option (Int32 × St) :=
  nm (sA ρ 0 (upd (ρ 0) 8 p0)) fun ρ_1 =>
  some ((1 : Int32), ρ_1)
def fRo_seatCount (N : Nat) (ρ : St) : Option (Int32) :=
  some (ρ 0 2)
def fRo_readerCount (N : Nat) (ρ : St) : Option (Int32) :=
  some (ρ 0 3)
def fRo_cardMinutes (N : Nat) (ρ : St) : Option (Int32) :=
  some (ρ 0 4)
def fRo_porterMinutes (N : Nat) (ρ : St) : Option (Int32) :=
  some (ρ 0 5)
def fRo_lampMinutes (N : Nat) (ρ : St) : Option (Int32) :=
  some (ρ 0 6)
def fRo_seekMinutes (N : Nat) (ρ : St) : Option (Int32) :=
  some (ρ 0 7)
def fRo_laterMinutes (N : Nat) (ρ : St) : Option (Int32) :=
  some (ρ 0 8)
def fRo_everybody (N : Nat) (ρ : St) : Option (Int32) :=
  some (((1 : Int32) <<< ((ρ 0 3) &&& 31)) - (1 : Int32))
def fRo_kindOf_22 (N : Nat) (ρ : St) (k0 : Int32) : Option (Int32) :=
  some k0
def fRo_kindOf_21 (N : Nat) (ρ : St) : Option (Int32) :=
  fRo_kindOf_22 N ρ (0 : Int32)
def fRo_kindOf (N : Nat) (p0 : Int32) (ρ : St) : Option (Int32) :=
  if p0 < 0 then
    fRo_kindOf_21 N ρ
  else
    if (ρ 0 2) ≤ p0 then
      fRo_kindOf_21 N ρ
    else
      gI p0 10 <|
      fRo_kindOf_22 N ρ (ρ 1 p0.toNatClampNeg)
def fRo_number_47 (N : Nat) (ρ : St) (k0 : Int32) : Option (Int32) :=
  some k0
def fRo_number_27 (N : Nat) (ρ : St) (v1 : Int32) (v2 : Int32) (k0 : Int32) : Option (Int32) :=
  if k0 = 0 then
    fRo_number_47 N ρ (0 : Int32)
  else
    gI ((v1 * (7 : Int32)) + v2) 56 <|
    fRo_number_47 N ρ (ρ 2 ((v1 * (7 : Int32)) + v2).toNatClampNeg)
def fRo_number_26 (N : Nat) (ρ : St) (v1 : Int32) (v2 : Int32) : Option (Int32) :=
  fRo_number_27 N ρ v1 v2 (0 : Int32)
def fRo_number (N : Nat) (p0 : Int32) (p1 : Int32) (ρ : St) : Option (Int32) :=
  if p0 < 0 then
    fRo_number_26 N ρ p0 p1
  else
    if (ρ 0 3) ≤ p0 then
      fRo_number_26 N ρ p0 p1
    else
      if p1 < 0 then
        fRo_number_26 N ρ p0 p1
      else
        if (7 : Int32) ≤ p1 then
          fRo_number_26 N ρ p0 p1
        else
          fRo_number_27 N ρ p0 p1 (1 : Int32)
def fRo_goesOff_20 (N : Nat) (ρ : St) (k0 : Int32) : Option (Int32) :=
  gB k0 <|
  some k0
def fRo_goesOff (N : Nat) (p0 : Int32) (ρ : St) : Option (Int32) :=
  cl1 (fRo_number N p0 (2 : Int32) ρ) fun r_2 =>
  cl1 (fRo_number N p0 (1 : Int32) ρ) fun r_4 =>
  if r_4 ≤ r_2 then
    fRo_goesOff_20 N ρ (0 : Int32)
  else
    fRo_goesOff_20 N ρ (1 : Int32)
def fSc_itemOf (N : Nat) (p0 : Int32) : Option (Int32) :=
  if p0 = 99 then
    some (2 : Int32)
  else
    if p0 = 108 then
      some (3 : Int32)
    else
      if p0 = 114 then
        some (1 : Int32)
      else
        if p0 = 115 then
          some (0 : Int32)
        else
          if p0 = 118 then
            some (5 : Int32)
          else
            if p0 = 119 then
              some (4 : Int32)
            else
              some (-4 : Int32)
def gC {α : Type} (dp : Int32) (k : Option α) : Option α := if dp < 0 then none else if dp.toNatClampNeg + 7 ≤ 56 then k else none
theorem gC_some {α : Type} {dp : Int32} {k : Option α} {r : α} (h : gC dp k = some r) : ¬ dp < 0 ∧ dp.toNatClampNeg + 7 ≤ 56 ∧ k = some r := by
  unfold gC at h
  by_cases h1 : dp < 0
  · rw [if_pos h1] at h; cases h
  · rw [if_neg h1] at h
    by_cases h2 : dp.toNatClampNeg + 7 ≤ 56
    · rw [if_pos h2] at h; exact ⟨h1, h2, h⟩
    · rw [if_neg h2] at h; cases h
def fRo_addReader (N : Nat) (told : Nat → Int32) (ρ : St) : Option (Int32 × St) :=
  if (8 : Int32) ≤ (ρ 0 3) then
    some ((0 : Int32), ρ)
  else
    gC ((ρ 0 3) * (7 : Int32)) <|
    nm (sA ρ 2 (va_cpy told (ρ 2) 0 ((ρ 0 3) * (7 : Int32)).toNatClampNeg 7)) fun ρ_1 =>
    nm (sA ρ_1 0 (upd (ρ_1 0) 3 ((ρ_1 0 3) + (1 : Int32)))) fun ρ_2 =>
    some ((1 : Int32), ρ_2)

def fSc_put (N : Nat) (p0 : Int32) (ς : St) (ρ : St) : Option (Int32 × St) :=
  if p0 = 0 then
    gI (0 : Int32) 7 <|
    cl2 (fRo_addSeat N (ς 2 (0 : Int32).toNatClampNeg) ρ) fun r_3 ρ_4 =>
    gB r_3 <|
    some (r_3, ρ_4)
  else
    if p0 = 1 then
      cl2 (fRo_addReader N (ς 2) ρ) fun r_8 ρ_9 =>
      gB r_8 <|
      some (r_8, ρ_9)
    else
      if p0 = 2 then
        gI (0 : Int32) 7 <|
        gI (1 : Int32) 7 <|
        cl2 (fRo_setCards N (ς 2 (0 : Int32).toNatClampNeg) (ς 2 (1 : Int32).toNatClampNeg) ρ) fun r_15 ρ_16 =>
        gB r_15 <|
        some (r_15, ρ_16)
      else
        if p0 = 3 then
          gI (0 : Int32) 7 <|
          cl2 (fRo_setLamps N (ς 2 (0 : Int32).toNatClampNeg) ρ) fun r_21 ρ_22 =>
          gB r_21 <|
          some (r_21, ρ_22)
        else
          if p0 = 4 then
            gI (0 : Int32) 7 <|
            cl2 (fRo_setSeeking N (ς 2 (0 : Int32).toNatClampNeg) ρ) fun r_27 ρ_28 =>
            gB r_27 <|
            some (r_27, ρ_28)
          else
            gI (0 : Int32) 7 <|
            cl2 (fRo_setLater N (ς 2 (0 : Int32).toNatClampNeg) ρ) fun r_32 ρ_33 =>
            gB r_32 <|
            some (r_32, ρ_33)
def fSc_readFigures_49 (k_5 : Int32 → Int32 → St → Option (Int32 × St)) (N : Nat) (τ : St) (v2 : Int32) (v3 : Int32) (k0 : Int32) (ς : St) : Option (Int32 × St) :=
  nm (((k0 + v3) - (48 : Int32))) fun x1_1 =>
  nm (sA ς 0 (upd (ς 0) 2 ((ς 0 2) + (1 : Int32)))) fun ς_2 =>
  nm (v2 + 1) fun x2_3 =>
  k_5 x1_1 x2_3 ς_2
def fSc_readFigures_71 (N : Nat) (τ : St) (v1 : Int32) (ς : St) : Option (Int32 × St) :=
  some (v1, ς)
def fSc_readFigures_5 (N : Nat) (τ : St) : Nat → Int32 → Int32 → St → Option (Int32 × St)
  | 0, _, _, _ => none
  | n_5 + 1, v1, v2, ς =>
    if (3 : Int32) ≤ v2 then
      fSc_readFigures_71 N τ v1 ς
    else
      cl1 (fTe_byteAt N (ς 0 2) τ) fun r_5 =>
      if r_5 < (48 : Int32) then
        fSc_readFigures_71 N τ v1 ς
      else
        if r_5 ≤ (57 : Int32) then
          if v2 = 0 then
            fSc_readFigures_49 (fSc_readFigures_5 N τ n_5) N τ v2 r_5 (0 : Int32) ς
          else
            fSc_readFigures_49 (fSc_readFigures_5 N τ n_5) N τ v2 r_5 (v1 * (10 : Int32)) ς
        else
          fSc_readFigures_71 N τ v1 ς
def fSc_readFigures (N : Nat) (τ : St) (ς : St) : Option (Int32 × St) :=
  fSc_readFigures_5 N τ N (-4 : Int32) (0 : Int32) ς
def fSc_readNumbers_14 (N : Nat) (τ : St) (ς : St) : Option (Int32 × St) :=
  some ((0 : Int32), ς)
def fSc_readNumbers_83 (N : Nat) (τ : St) (ς : St) : Option (Int32 × St) :=
  some ((0 : Int32), ς)
def fSc_readNumbers_120 (k_35 : Int32 → Int32 → Int32 → St → Option (Int32 × St)) (N : Nat) (τ : St) (v2 : Int32) (v3 : Int32) (v4 : Int32) (k0 : Int32) (k1 : Int32) (ς : St) : Option (Int32 × St) :=
  if k0 = k1 then
    nm (sA ς 0 (upd (ς 0) 2 ((ς 0 2) + (1 : Int32)))) fun ς_2 =>
    nm (v4 + 1) fun x4_3 =>
    k_35 v2 v3 x4_3 ς_2
  else
    some ((0 : Int32), ς)
def fSc_readNumbers_141 (N : Nat) (τ : St) (ς : St) : Option (Int32 × St) :=
  some ((1 : Int32), ς)
def fSc_readNumbers_35 (N : Nat) (τ : St) : Nat → Int32 → Int32 → Int32 → St → Option (Int32 × St)
  | 0, _, _, _, _ => none
  | n_35 + 1, v2, v3, v4, ς =>
    if v3 ≤ v4 then
      fSc_readNumbers_141 N τ ς
    else
      if (7 : Int32) ≤ v4 then
        fSc_readNumbers_141 N τ ς
      else
        cl2 (fSc_readFigures N τ ς) fun r_6 ς_7 =>
        gI (v2 + v4) 13 <|
        if r_6 < (zLeast (v2 + v4).toNatClampNeg) then
          fSc_readNumbers_83 N τ ς_7
        else
          gI (v2 + v4) 13 <|
          if r_6 ≤ (zMost (v2 + v4).toNatClampNeg) then
            gI v4 7 <|
            nm (sA ς_7 2 (upd (ς_7 2) v4.toNatClampNeg r_6)) fun ς_14 =>
            cl1 (fTe_byteAt N (ς_14 0 2) τ) fun r_15 =>
            if v3 ≤ (v4 + (1 : Int32)) then
              fSc_readNumbers_120 (fSc_readNumbers_35 N τ n_35) N τ v2 v3 v4 r_15 (59 : Int32) ς_14
            else
              fSc_readNumbers_120 (fSc_readNumbers_35 N τ n_35) N τ v2 v3 v4 r_15 (44 : Int32) ς_14
          else
            fSc_readNumbers_83 N τ ς_7
def fSc_readNumbers (N : Nat) (p0 : Int32) (τ : St) (ς : St) : Option (Int32 × St) :=
  if p0 < 0 then
    fSc_readNumbers_14 N τ ς
  else
    if (p0 + (1 : Int32)) < (Int32.ofNat 7) then
      gI p0 7 <|
      nm ((zFirst p0.toNatClampNeg)) fun x2_21 =>
      gI (p0 + (1 : Int32)) 7 <|
      nm (((zFirst (p0 + (1 : Int32)).toNatClampNeg) - x2_21)) fun x3_23 =>
      fSc_readNumbers_35 N τ N x2_21 x3_23 (0 : Int32) ς
    else
      fSc_readNumbers_14 N τ ς
def fSc_readInto_89 (N : Nat) (τ : St) (v3 : Int32) (ς : St) (ρ : St) : Option (Int32 × St × St) :=
  some (v3, ς, ρ)
def fSc_readInto_97 (N : Nat) (τ : St) (ς : St) (ρ : St) : Option (Int32 × St × St) :=
  some ((-4 : Int32), ς, ρ)
def fSc_readInto_11 (N : Nat) (τ : St) : Nat → Int32 → St → St → Option (Int32 × St × St)
  | 0, _, _, _ => none
  | n_11 + 1, v2, ς, ρ =>
    if (400 : Int32) ≤ v2 then
      fSc_readInto_97 N τ ς ρ
    else
      cl1 (fTe_length N τ) fun r_2 =>
      if r_2 ≤ (ς 0 2) then
        fSc_readInto_97 N τ ς ρ
      else
        nm ((ς 0 2)) fun x3_5 =>
        cl1 (fTe_byteAt N (ς 0 2) τ) fun r_6 =>
        cl1 (fSc_itemOf N r_6) fun r_8 =>
        nm (sA ς 0 (upd (ς 0) 2 ((ς 0 2) + (1 : Int32)))) fun ς_10 =>
        if r_8 = (-4 : Int32) then
          fSc_readInto_89 N τ x3_5 ς_10 ρ
        else
          cl2 (fSc_readNumbers N r_8 τ ς_10) fun r_12 ς_13 =>
          if r_12 = 0 then
            fSc_readInto_89 N τ x3_5 ς_13 ρ
          else
            cl2 (fSc_put N r_8 ς_13 ρ) fun r_16 ρ_17 =>
            if r_16 = 0 then
              fSc_readInto_89 N τ x3_5 ς_13 ρ_17
            else
              nm (v2 + 1) fun x2_20 =>
              fSc_readInto_11 N τ n_11 x2_20 ς_13 ρ_17
def fSc_readInto (N : Nat) (τ : St) (ς : St) (ρ : St) : Option (Int32 × St × St) :=
  cl1 (fRo_clear N ρ) fun ρ_21 =>
  nm (sA ς 0 (upd (ς 0) 2 (0 : Int32))) fun ς_23 =>
  fSc_readInto_11 N τ N (0 : Int32) ς_23 ρ_21
def fDa_useCards (N : Nat) (p0 : Int32) (p1 : Int32) (δ : St) : Option (St) :=
  nm (sA δ 0 (upd (δ 0) 13 p0)) fun δ_1 =>
  nm (sA δ_1 0 (upd (δ_1 0) 14 p1)) fun δ_2 =>
  some δ_2
def fDa_open_65 (N : Nat) (ρ : St) : Nat → Int32 → St → Option (St)
  | 0, _, _ => none
  | n_65 + 1, v4, δ =>
    if (8 : Int32) ≤ v4 then
      nm (sA δ 6 (fillI (δ 6) 10 (-1 : Int32))) fun δ_2 =>
      nm (sA δ_2 7 (fillI (δ_2 7) 10 (-1 : Int32))) fun δ_3 =>
      nm (sA δ_3 0 (upd (δ_3 0) 15 (0 : Int32))) fun δ_4 =>
      nm (sA δ_4 0 (upd (δ_4 0) 16 (δ_4 0 9))) fun δ_5 =>
      nm (sA δ_5 0 (upd (δ_5 0) 17 (0 : Int32))) fun δ_6 =>
      nm (sA δ_6 0 (upd (δ_6 0) 18 (0 : Int32))) fun δ_7 =>
      nm (sA δ_7 0 (upd (δ_7 0) 19 (0 : Int32))) fun δ_8 =>
      some δ_8
    else
      gI v4 8 <|
      nm (sA δ 1 (upd (δ 1) v4.toNatClampNeg (0 : Int32))) fun δ_10 =>
      gI v4 8 <|
      nm (sA δ_10 2 (upd (δ_10 2) v4.toNatClampNeg (-1 : Int32))) fun δ_12 =>
      gI v4 8 <|
      nm (sA δ_12 3 (upd (δ_12 3) v4.toNatClampNeg (0 : Int32))) fun δ_14 =>
      gI v4 8 <|
      nm (sA δ_14 4 (upd (δ_14 4) v4.toNatClampNeg (0 : Int32))) fun δ_16 =>
      cl1 (fRo_number N v4 (0 : Int32) ρ) fun r_17 =>
      gI v4 8 <|
      nm (sA δ_16 5 (upd (δ_16 5) v4.toNatClampNeg r_17)) fun δ_20 =>
      nm (v4 + 1) fun x4_21 =>
      fDa_open_65 N ρ n_65 x4_21 δ_20
def fDa_open_47 (N : Nat) (ρ : St) (k1 : Int32) (δ : St) : Option (St) :=
  nm (sA δ 0 (upd (δ 0) 12 k1)) fun δ_22 =>
  cl1 (fRo_cardMinutes N ρ) fun r_23 =>
  cl1 (fRo_porterMinutes N ρ) fun r_25 =>
  cl1 (fDa_useCards N r_23 r_25 δ_22) fun δ_27 =>
  fDa_open_65 N ρ N (0 : Int32) δ_27
def fDa_open (N : Nat) (p0 : Int32) (p1 : Int32) (ρ : St) (δ : St) : Option (St) :=
  cl1 (fRo_readerCount N ρ) fun r_29 =>
  nm (sA δ 0 (upd (δ 0) 9 (if (8 : Int32) < r_29 then (8 : Int32) else r_29))) fun δ_31 =>
  cl1 (fRo_seatCount N ρ) fun r_32 =>
  nm (sA δ_31 0 (upd (δ_31 0) 10 (if (10 : Int32) < r_32 then (10 : Int32) else r_32))) fun δ_34 =>
  nm (sA δ_34 0 (upd (δ_34 0) 11 p0)) fun δ_35 =>
  if p0 = (1 : Int32) then
    fDa_open_47 N ρ (0 : Int32) δ_35
  else
    fDa_open_47 N ρ p1 δ_35
def fDa_comeLater_69 (N : Nat) (ρ : St) (δ : St) : Option (St) :=
  some δ
def fDa_comeLater_12 (N : Nat) (ρ : St) : Nat → Int32 → Int32 → Int32 → St → Option (St)
  | 0, _, _, _, _ => none
  | n_12 + 1, v1, v2, v3, δ =>
    if (δ 0 9) ≤ v3 then
      fDa_comeLater_69 N ρ δ
    else
      if v2 ≤ 0 then
        fDa_comeLater_69 N ρ δ
      else
        nm (((((7919 : Int64) * (v1.toInt64)) + ((6151 : Int64) * (v3.toInt64))) + (1 : Int64))) fun x4_3 =>
        gI v3 8 <|
        gZL ((v2.toInt64)) <|
        gI v3 8 <|
        nm (sA δ 5 (upd (δ 5) v3.toNatClampNeg ((δ 5 v3.toNatClampNeg) + ((((x4_3 * x4_3) - (x4_3 * x4_3) / (65521 : Int64) * (65521 : Int64)) - ((x4_3 * x4_3) - (x4_3 * x4_3) / (65521 : Int64) * (65521 : Int64)) / (v2.toInt64) * (v2.toInt64)).toInt32)))) fun δ_7 =>
        nm (v3 + 1) fun x3_8 =>
        fDa_comeLater_12 N ρ n_12 v1 v2 x3_8 δ_7
def fDa_comeLater (N : Nat) (p0 : Int32) (ρ : St) (δ : St) : Option (St) :=
  cl1 (fRo_laterMinutes N ρ) fun r_9 =>
  nm ((r_9 + (1 : Int32))) fun x2_11 =>
  fDa_comeLater_12 N ρ N p0 x2_11 (0 : Int32) δ
def fDa_holderOf_23 (N : Nat) (δ : St) (k0 : Int32) : Option (Int32) :=
  some k0
def fDa_holderOf_22 (N : Nat) (δ : St) : Option (Int32) :=
  fDa_holderOf_23 N δ (-1 : Int32)
def fDa_holderOf (N : Nat) (p0 : Int32) (δ : St) : Option (Int32) :=
  if p0 < 0 then
    fDa_holderOf_22 N δ
  else
    if (10 : Int32) ≤ p0 then
      fDa_holderOf_22 N δ
    else
      gI p0 10 <|
      fDa_holderOf_23 N δ (δ 7 p0.toNatClampNeg)
def fDa_sitDown_13 (N : Nat) (δ : St) : Option (St) :=
  some δ
def fDa_sitDown (N : Nat) (p0 : Int32) (p1 : Int32) (δ : St) : Option (St) :=
  if p1 < 0 then
    fDa_sitDown_13 N δ
  else
    if p1 < (10 : Int32) then
      gI p1 10 <|
      nm (sA δ 6 (upd (δ 6) p1.toNatClampNeg p0)) fun δ_4 =>
      gI p1 10 <|
      nm (sA δ_4 7 (upd (δ_4 7) p1.toNatClampNeg (-1 : Int32))) fun δ_6 =>
      gI p0 8 <|
      nm (sA δ_6 2 (upd (δ_6 2) p0.toNatClampNeg p1)) fun δ_8 =>
      gI p0 8 <|
      nm (sA δ_8 1 (upd (δ_8 1) p0.toNatClampNeg (2 : Int32))) fun δ_10 =>
      some δ_10
    else
      fDa_sitDown_13 N δ
def fDa_comeBack_99 (k_2 : Int32 → Int32 → St → Option (St)) (N : Nat) (ρ : St) (v1 : Int32) (v2 : Int32) (δ : St) : Option (St) :=
  nm (v2 + 1) fun x2_1 =>
  k_2 v1 x2_1 δ
def fDa_comeBack_2 (N : Nat) (ρ : St) : Nat → Int32 → Int32 → St → Option (St)
  | 0, _, _, _ => none
  | n_2 + 1, v1, v2, δ =>
    if (δ 0 9) ≤ v2 then
      some δ
    else
      gI v2 8 <|
      if (δ 1 v2.toNatClampNeg) = (3 : Int32) then
        gI v2 8 <|
        cl1 (fRo_number N v2 (3 : Int32) ρ) fun r_6 =>
        if (v1 - (δ 3 v2.toNatClampNeg)) = r_6 then
          gI v2 8 <|
          nm ((δ 2 v2.toNatClampNeg)) fun x3_10 =>
          cl1 (fDa_holderOf N x3_10 δ) fun r_11 =>
          if r_11 = v2 then
            cl1 (fDa_sitDown N v2 x3_10 δ) fun δ_19 =>
            fDa_comeBack_99 (fDa_comeBack_2 N ρ n_2) N ρ v1 v2 δ_19
          else
            gI v2 8 <|
            nm (sA δ 1 (upd (δ 1) v2.toNatClampNeg (1 : Int32))) fun δ_15 =>
            gI v2 8 <|
            nm (sA δ_15 3 (upd (δ_15 3) v2.toNatClampNeg v1)) fun δ_17 =>
            nm (sA δ_17 0 (upd (δ_17 0) 19 ((δ_17 0 19) ||| ((δ_17 0 12) &&& ((1 : Int32) <<< (v2 &&& 31)))))) fun δ_18 =>
            fDa_comeBack_99 (fDa_comeBack_2 N ρ n_2) N ρ v1 v2 δ_18
        else
          fDa_comeBack_99 (fDa_comeBack_2 N ρ n_2) N ρ v1 v2 δ
      else
        fDa_comeBack_99 (fDa_comeBack_2 N ρ n_2) N ρ v1 v2 δ
def fDa_comeBack (N : Nat) (p0 : Int32) (ρ : St) (δ : St) : Option (St) :=
  fDa_comeBack_2 N ρ N p0 (0 : Int32) δ
def fDa_countSeats_50 (k_4 : Int32 → Int32 → Int32 → St → Option (St)) (N : Nat) (v1 : Int32) (v2 : Int32) (v3 : Int32) (k1 : Int32) (k2 : Int32) (δ : St) : Option (St) :=
  nm (sA δ 0 (upd (δ 0) 17 (k1 + k2))) fun δ_1 =>
  nm (v3 + 1) fun x3_2 =>
  k_4 v1 v2 x3_2 δ_1
def fDa_countSeats_28 (k_4 : Int32 → Int32 → Int32 → St → Option (St)) (N : Nat) (v1 : Int32) (v3 : Int32) (k0 : Int32) (k1 : Int32) (δ : St) : Option (St) :=
  nm ((k0 + k1)) fun x2_3 =>
  gI v3 10 <|
  if (δ 7 v3.toNatClampNeg) = (-1 : Int32) then
    fDa_countSeats_50 k_4 N v1 x2_3 v3 (δ 0 17) (0 : Int32) δ
  else
    fDa_countSeats_50 k_4 N v1 x2_3 v3 (δ 0 17) (1 : Int32) δ
def fDa_countSeats_4 (N : Nat) : Nat → Int32 → Int32 → Int32 → St → Option (St)
  | 0, _, _, _, _ => none
  | n_4 + 1, v1, v2, v3, δ =>
    if (δ 0 10) ≤ v3 then
      gI v1 400 <|
      nm (sA δ 8 (upd (δ 8) v1.toNatClampNeg v2)) fun δ_8 =>
      some δ_8
    else
      gI v3 10 <|
      if (δ 6 v3.toNatClampNeg) = (-1 : Int32) then
        fDa_countSeats_28 (fDa_countSeats_4 N n_4) N v1 v3 v2 (0 : Int32) δ
      else
        fDa_countSeats_28 (fDa_countSeats_4 N n_4) N v1 v3 v2 (1 : Int32) δ
def fDa_countSeats (N : Nat) (p0 : Int32) (δ : St) : Option (St) :=
  fDa_countSeats_4 N N p0 (0 : Int32) (0 : Int32) δ
def fDa_offFor_25 (N : Nat) (δ : St) (k0 : Int32) : Option (Int32) :=
  some k0
def fDa_offFor_24 (N : Nat) (δ : St) : Option (Int32) :=
  fDa_offFor_25 N δ (0 : Int32)
def fDa_offFor (N : Nat) (p0 : Int32) (p1 : Int32) (δ : St) : Option (Int32) :=
  if p0 < 0 then
    fDa_offFor_24 N δ
  else
    if (8 : Int32) ≤ p0 then
      fDa_offFor_24 N δ
    else
      gI p0 8 <|
      fDa_offFor_25 N δ (p1 - (δ 3 p0.toNatClampNeg))
def fDa_freeHeld_108 (k_65 : Int32 → Int32 → Int32 → St → Option (St)) (N : Nat) (ρ : St) (v1 : Int32) (v3 : Int32) (v4 : Int32) (δ : St) : Option (St) :=
  nm (v4 + 1) fun x4_1 =>
  k_65 v1 v3 x4_1 δ
def fDa_freeHeld_65 (N : Nat) (ρ : St) : Nat → Int32 → Int32 → Int32 → St → Option (St)
  | 0, _, _, _, _ => none
  | n_65 + 1, v1, v3, v4, δ =>
    if (δ 0 10) ≤ v4 then
      some δ
    else
      gI v4 10 <|
      nm ((δ 7 v4.toNatClampNeg)) fun x5_4 =>
      if x5_4 = (-1 : Int32) then
        fDa_freeHeld_108 (fDa_freeHeld_65 N ρ n_65) N ρ v1 v3 v4 δ
      else
        cl1 (fDa_offFor N x5_4 v1 δ) fun r_6 =>
        if r_6 < v3 then
          fDa_freeHeld_108 (fDa_freeHeld_65 N ρ n_65) N ρ v1 v3 v4 δ
        else
          gI v4 10 <|
          nm (sA δ 7 (upd (δ 7) v4.toNatClampNeg (-1 : Int32))) fun δ_10 =>
          fDa_freeHeld_108 (fDa_freeHeld_65 N ρ n_65) N ρ v1 v3 v4 δ_10
def fDa_freeHeld_61 (N : Nat) (ρ : St) (v1 : Int32) (k0 : Int32) (δ : St) : Option (St) :=
  fDa_freeHeld_65 N ρ N v1 k0 (0 : Int32) δ
def fDa_freeHeld_43 (N : Nat) (ρ : St) (v1 : Int32) (v2 : Int32) (δ : St) : Option (St) :=
  if v2 = 0 then
    cl1 (fRo_lampMinutes N ρ) fun r_12 =>
    fDa_freeHeld_61 N ρ v1 r_12 δ
  else
    fDa_freeHeld_61 N ρ v1 (δ 0 13) δ
def fDa_freeHeld_29 (N : Nat) (ρ : St) (v1 : Int32) (k0 : Int32) (δ : St) : Option (St) :=
  if k0 = 0 then
    if (δ 0 11) = (3 : Int32) then
      fDa_freeHeld_43 N ρ v1 k0 δ
    else
      some δ
  else
    fDa_freeHeld_43 N ρ v1 k0 δ
def fDa_freeHeld_28 (N : Nat) (ρ : St) (v1 : Int32) (δ : St) : Option (St) :=
  fDa_freeHeld_29 N ρ v1 (0 : Int32) δ
def fDa_freeHeld (N : Nat) (p0 : Int32) (ρ : St) (δ : St) : Option (St) :=
  if (δ 0 11) = (2 : Int32) then
    if (δ 0 14) ≤ 0 then
      fDa_freeHeld_28 N ρ p0 δ
    else
      gZ ((δ 0 14)) <|
      if (p0 - p0 / (δ 0 14) * (δ 0 14)) = 0 then
        fDa_freeHeld_29 N ρ p0 (1 : Int32) δ
      else
        fDa_freeHeld_28 N ρ p0 δ
  else
    fDa_freeHeld_28 N ρ p0 δ
def fDa_daredSeatFor_60 (k_2 : Int32 → Int32 → Int32 → Option (Int32)) (N : Nat) (δ : St) (ρ : St) (v1 : Int32) (v2 : Int32) (v3 : Int32) : Option (Int32) :=
  nm (v3 + 1) fun x3_1 =>
  k_2 v1 v2 x3_1
def fDa_daredSeatFor_2 (N : Nat) (δ : St) (ρ : St) : Nat → Int32 → Int32 → Int32 → Option (Int32)
  | 0, _, _, _ => none
  | n_2 + 1, v1, v2, v3 =>
    if (δ 0 10) ≤ v3 then
      some (-1 : Int32)
    else
      gI v3 10 <|
      nm ((δ 7 v3.toNatClampNeg)) fun x4_4 =>
      if x4_4 = (-1 : Int32) then
        fDa_daredSeatFor_60 (fDa_daredSeatFor_2 N δ ρ n_2) N δ ρ v1 v2 v3
      else
        cl1 (fRo_number N x4_4 (5 : Int32) ρ) fun r_6 =>
        cl1 (fRo_number N v1 (6 : Int32) ρ) fun r_8 =>
        cl1 (fDa_offFor N x4_4 v2 δ) fun r_10 =>
        if (r_8 + (r_10 / (10 : Int32))) < r_6 then
          fDa_daredSeatFor_60 (fDa_daredSeatFor_2 N δ ρ n_2) N δ ρ v1 v2 v3
        else
          some v3
def fDa_daredSeatFor (N : Nat) (p0 : Int32) (p1 : Int32) (δ : St) (ρ : St) : Option (Int32) :=
  fDa_daredSeatFor_2 N δ ρ N p0 p1 (0 : Int32)
def fBc_bitCount_0f7a4 (N : Nat) (p0 : Int32) : Option (Int32) :=
  nm ((p0 - (((p0.toUInt32 >>> ((1 : Int32).toUInt32 &&& Int32.toUInt32 31)).toInt32) &&& (1431655765 : Int32)))) fun x0_1 =>
  nm (((x0_1 &&& (858993459 : Int32)) + (((x0_1.toUInt32 >>> ((2 : Int32).toUInt32 &&& Int32.toUInt32 31)).toInt32) &&& (858993459 : Int32)))) fun x0_2 =>
  nm (((x0_2 + ((x0_2.toUInt32 >>> ((4 : Int32).toUInt32 &&& Int32.toUInt32 31)).toInt32)) &&& (252645135 : Int32))) fun x0_3 =>
  nm ((x0_3 + ((x0_3.toUInt32 >>> ((8 : Int32).toUInt32 &&& Int32.toUInt32 31)).toInt32))) fun x0_4 =>
  nm ((x0_4 + ((x0_4.toUInt32 >>> ((16 : Int32).toUInt32 &&& Int32.toUInt32 31)).toInt32))) fun x0_5 =>
  some (x0_5 &&& (63 : Int32))
def fDa_freeSeatFor_82 (k_18 : Int32 → Int32 → Int32 → Int32 → Option (Int32)) (N : Nat) (δ : St) (ρ : St) (v2 : Int32) (v3 : Int32) (v4 : Int32) (v5 : Int32) : Option (Int32) :=
  nm (v5 + 1) fun x5_1 =>
  k_18 v2 v3 v4 x5_1
def fDa_freeSeatFor_18 (N : Nat) (δ : St) (ρ : St) : Nat → Int32 → Int32 → Int32 → Int32 → Option (Int32)
  | 0, _, _, _, _ => none
  | n_18 + 1, v2, v3, v4, v5 =>
    if (δ 0 10) ≤ v5 then
      some v3
    else
      gI v5 10 <|
      if (δ 6 v5.toNatClampNeg) = (-1 : Int32) then
        gI v5 10 <|
        if (δ 7 v5.toNatClampNeg) = (-1 : Int32) then
          cl1 (fRo_kindOf N v5 ρ) fun r_7 =>
          cl1 (fBc_bitCount_0f7a4 N (r_7 &&& v2)) fun r_9 =>
          if r_9 ≤ v4 then
            fDa_freeSeatFor_82 (fDa_freeSeatFor_18 N δ ρ n_18) N δ ρ v2 v3 v4 v5
          else
            fDa_freeSeatFor_82 (fDa_freeSeatFor_18 N δ ρ n_18) N δ ρ v2 v5 r_9 v5
        else
          fDa_freeSeatFor_82 (fDa_freeSeatFor_18 N δ ρ n_18) N δ ρ v2 v3 v4 v5
      else
        fDa_freeSeatFor_82 (fDa_freeSeatFor_18 N δ ρ n_18) N δ ρ v2 v3 v4 v5
def fDa_freeSeatFor (N : Nat) (p0 : Int32) (δ : St) (ρ : St) : Option (Int32) :=
  cl1 (fRo_number N p0 (4 : Int32) ρ) fun r_12 =>
  fDa_freeSeatFor_18 N δ ρ N r_12 (-1 : Int32) (-1 : Int32) (0 : Int32)
def fDa_seekSeats_143 (k_2 : Int32 → Int32 → St → Option (St)) (N : Nat) (ρ : St) (v1 : Int32) (v2 : Int32) (δ : St) : Option (St) :=
  nm (v2 + 1) fun x2_1 =>
  k_2 v1 x2_1 δ
def fDa_seekSeats_82 (k_2 : Int32 → Int32 → St → Option (St)) (N : Nat) (ρ : St) (v1 : Int32) (v2 : Int32) (v3 : Int32) (δ : St) : Option (St) :=
  if v3 = (-1 : Int32) then
    gI v2 8 <|
    cl1 (fRo_seekMinutes N ρ) fun r_4 =>
    if (v1 - (δ 3 v2.toNatClampNeg)) < r_4 then
      fDa_seekSeats_143 k_2 N ρ v1 v2 δ
    else
      gI v2 8 <|
      nm (sA δ 1 (upd (δ 1) v2.toNatClampNeg (4 : Int32))) fun δ_8 =>
      nm (sA δ_8 0 (upd (δ_8 0) 16 ((δ_8 0 16) - (1 : Int32)))) fun δ_9 =>
      nm (sA δ_9 0 (upd (δ_9 0) 18 ((δ_9 0 18) ||| ((1 : Int32) <<< (v2 &&& 31))))) fun δ_10 =>
      fDa_seekSeats_143 k_2 N ρ v1 v2 δ_10
  else
    cl1 (fDa_sitDown N v2 v3 δ) fun δ_11 =>
    fDa_seekSeats_143 k_2 N ρ v1 v2 δ_11
def fDa_seekSeats_43 (k_2 : Int32 → Int32 → St → Option (St)) (N : Nat) (ρ : St) (v1 : Int32) (v2 : Int32) (δ : St) : Option (St) :=
  gI v2 8 <|
  if (δ 1 v2.toNatClampNeg) = (1 : Int32) then
    cl1 (fDa_freeSeatFor N v2 δ ρ) fun r_15 =>
    if r_15 = (-1 : Int32) then
      if (δ 0 11) = (4 : Int32) then
        cl1 (fDa_daredSeatFor N v2 v1 δ ρ) fun r_19 =>
        fDa_seekSeats_82 k_2 N ρ v1 v2 r_19 δ
      else
        fDa_seekSeats_82 k_2 N ρ v1 v2 r_15 δ
    else
      fDa_seekSeats_82 k_2 N ρ v1 v2 r_15 δ
  else
    fDa_seekSeats_143 k_2 N ρ v1 v2 δ
def fDa_seekSeats_2 (N : Nat) (ρ : St) : Nat → Int32 → Int32 → St → Option (St)
  | 0, _, _, _ => none
  | n_2 + 1, v1, v2, δ =>
    if (δ 0 9) ≤ v2 then
      some δ
    else
      gI v2 8 <|
      if (δ 1 v2.toNatClampNeg) = 0 then
        gI v2 8 <|
        if (δ 5 v2.toNatClampNeg) = v1 then
          gI v2 8 <|
          nm (sA δ 1 (upd (δ 1) v2.toNatClampNeg (1 : Int32))) fun δ_27 =>
          gI v2 8 <|
          nm (sA δ_27 3 (upd (δ_27 3) v2.toNatClampNeg v1)) fun δ_29 =>
          fDa_seekSeats_43 (fDa_seekSeats_2 N ρ n_2) N ρ v1 v2 δ_29
        else
          fDa_seekSeats_43 (fDa_seekSeats_2 N ρ n_2) N ρ v1 v2 δ
      else
        fDa_seekSeats_43 (fDa_seekSeats_2 N ρ n_2) N ρ v1 v2 δ
def fDa_seekSeats (N : Nat) (p0 : Int32) (ρ : St) (δ : St) : Option (St) :=
  fDa_seekSeats_2 N ρ N p0 (0 : Int32) δ
def fDa_sitOn_160 (k_2 : Int32 → Int32 → St → Option (St)) (N : Nat) (ρ : St) (v1 : Int32) (v2 : Int32) (δ : St) : Option (St) :=
  nm (v2 + 1) fun x2_1 =>
  k_2 v1 x2_1 δ
def fDa_sitOn_145 (k_2 : Int32 → Int32 → St → Option (St)) (N : Nat) (ρ : St) (v1 : Int32) (v2 : Int32) (k1 : Int32) (k2 : Int32) (δ : St) : Option (St) :=
  gI k1 10 <|
  nm (sA δ 7 (upd (δ 7) k1.toNatClampNeg k2)) fun δ_3 =>
  gI v2 8 <|
  nm (sA δ_3 1 (upd (δ_3 1) v2.toNatClampNeg (3 : Int32))) fun δ_5 =>
  gI v2 8 <|
  nm (sA δ_5 3 (upd (δ_5 3) v2.toNatClampNeg v1)) fun δ_7 =>
  fDa_sitOn_160 k_2 N ρ v1 v2 δ_7
def fDa_sitOn_2 (N : Nat) (ρ : St) : Nat → Int32 → Int32 → St → Option (St)
  | 0, _, _, _ => none
  | n_2 + 1, v1, v2, δ =>
    if (δ 0 9) ≤ v2 then
      some δ
    else
      gI v2 8 <|
      nm ((δ 2 v2.toNatClampNeg)) fun x3_10 =>
      gI v2 8 <|
      if (δ 1 v2.toNatClampNeg) = (2 : Int32) then
        if x3_10 < 0 then
          fDa_sitOn_160 (fDa_sitOn_2 N ρ n_2) N ρ v1 v2 δ
        else
          if x3_10 < (10 : Int32) then
            gI v2 8 <|
            gI v2 8 <|
            nm (sA δ 4 (upd (δ 4) v2.toNatClampNeg ((δ 4 v2.toNatClampNeg) + (1 : Int32)))) fun δ_17 =>
            gI v2 8 <|
            cl1 (fRo_number N v2 (1 : Int32) ρ) fun r_19 =>
            if (δ_17 4 v2.toNatClampNeg) < r_19 then
              gI v2 8 <|
              cl1 (fRo_number N v2 (2 : Int32) ρ) fun r_23 =>
              if (δ_17 4 v2.toNatClampNeg) = r_23 then
                gI x3_10 10 <|
                nm (sA δ_17 6 (upd (δ_17 6) x3_10.toNatClampNeg (-1 : Int32))) fun δ_27 =>
                if (((δ_27 0 12) >>> (v2 &&& 31)) &&& (1 : Int32)) = (1 : Int32) then
                  fDa_sitOn_145 (fDa_sitOn_2 N ρ n_2) N ρ v1 v2 x3_10 v2 δ_27
                else
                  fDa_sitOn_145 (fDa_sitOn_2 N ρ n_2) N ρ v1 v2 x3_10 (-1 : Int32) δ_27
              else
                fDa_sitOn_160 (fDa_sitOn_2 N ρ n_2) N ρ v1 v2 δ_17
            else
              gI x3_10 10 <|
              nm (sA δ_17 6 (upd (δ_17 6) x3_10.toNatClampNeg (-1 : Int32))) fun δ_30 =>
              gI v2 8 <|
              nm (sA δ_30 1 (upd (δ_30 1) v2.toNatClampNeg (4 : Int32))) fun δ_32 =>
              nm (sA δ_32 0 (upd (δ_32 0) 16 ((δ_32 0 16) - (1 : Int32)))) fun δ_33 =>
              fDa_sitOn_160 (fDa_sitOn_2 N ρ n_2) N ρ v1 v2 δ_33
          else
            fDa_sitOn_160 (fDa_sitOn_2 N ρ n_2) N ρ v1 v2 δ
      else
        fDa_sitOn_160 (fDa_sitOn_2 N ρ n_2) N ρ v1 v2 δ
def fDa_sitOn (N : Nat) (p0 : Int32) (ρ : St) (δ : St) : Option (St) :=
  fDa_sitOn_2 N ρ N p0 (0 : Int32) δ
def fDa_runTo_62 (N : Nat) (ρ : St) (δ : St) : Option (St) :=
  some δ
def fDa_runTo_5 (N : Nat) (ρ : St) : Nat → Int32 → Int32 → St → Option (St)
  | 0, _, _, _ => none
  | n_5 + 1, v1, v2, δ =>
    if v1 < v2 then
      fDa_runTo_62 N ρ δ
    else
      if (400 : Int32) ≤ v2 then
        fDa_runTo_62 N ρ δ
      else
        if (δ 0 16) ≤ 0 then
          fDa_runTo_62 N ρ δ
        else
          cl1 (fDa_comeBack N v2 ρ δ) fun δ_4 =>
          cl1 (fDa_freeHeld N v2 ρ δ_4) fun δ_6 =>
          cl1 (fDa_seekSeats N v2 ρ δ_6) fun δ_8 =>
          cl1 (fDa_sitOn N v2 ρ δ_8) fun δ_10 =>
          cl1 (fDa_countSeats N v2 δ_10) fun δ_12 =>
          nm (sA δ_12 0 (upd (δ_12 0) 15 (v2 + (1 : Int32)))) fun δ_14 =>
          nm (v2 + 1) fun x2_15 =>
          fDa_runTo_5 N ρ n_5 v1 x2_15 δ_14
def fDa_runTo (N : Nat) (p0 : Int32) (ρ : St) (δ : St) : Option (St) :=
  nm ((δ 0 15)) fun x2_16 =>
  fDa_runTo_5 N ρ N p0 x2_16 δ
def fDa_sitterOf_23 (N : Nat) (δ : St) (k0 : Int32) : Option (Int32) :=
  some k0
def fDa_sitterOf_22 (N : Nat) (δ : St) : Option (Int32) :=
  fDa_sitterOf_23 N δ (-1 : Int32)
def fDa_sitterOf (N : Nat) (p0 : Int32) (δ : St) : Option (Int32) :=
  if p0 < 0 then
    fDa_sitterOf_22 N δ
  else
    if (10 : Int32) ≤ p0 then
      fDa_sitterOf_22 N δ
    else
      gI p0 10 <|
      fDa_sitterOf_23 N δ (δ 6 p0.toNatClampNeg)
def fDa_stateOf_23 (N : Nat) (δ : St) (k0 : Int32) : Option (Int32) :=
  some k0
def fDa_stateOf_22 (N : Nat) (δ : St) : Option (Int32) :=
  fDa_stateOf_23 N δ (0 : Int32)
def fDa_stateOf (N : Nat) (p0 : Int32) (δ : St) : Option (Int32) :=
  if p0 < 0 then
    fDa_stateOf_22 N δ
  else
    if (8 : Int32) ≤ p0 then
      fDa_stateOf_22 N δ
    else
      gI p0 8 <|
      fDa_stateOf_23 N δ (δ 1 p0.toNatClampNeg)
def fDa_minutesOf_23 (N : Nat) (δ : St) (k0 : Int32) : Option (Int32) :=
  some k0
def fDa_minutesOf_22 (N : Nat) (δ : St) : Option (Int32) :=
  fDa_minutesOf_23 N δ (0 : Int32)
def fDa_minutesOf (N : Nat) (p0 : Int32) (δ : St) : Option (Int32) :=
  if p0 < 0 then
    fDa_minutesOf_22 N δ
  else
    if (8 : Int32) ≤ p0 then
      fDa_minutesOf_22 N δ
    else
      gI p0 8 <|
      fDa_minutesOf_23 N δ (δ 4 p0.toNatClampNeg)
def fDa_seenEvery_32 (N : Nat) (δ : St) (v1 : Int32) (v2 : Int32) : Option (Int32) :=
  some (v2 * v1)
def fDa_seenEvery_4 (N : Nat) (δ : St) : Nat → Int32 → Int32 → Int32 → Option (Int32)
  | 0, _, _, _ => none
  | n_4 + 1, v1, v2, v3 =>
    if (δ 0 15) ≤ v3 then
      fDa_seenEvery_32 N δ v1 v2
    else
      if v1 ≤ 0 then
        fDa_seenEvery_32 N δ v1 v2
      else
        gI v3 400 <|
        nm ((v2 + (δ 8 v3.toNatClampNeg))) fun x2_4 =>
        nm ((v3 + v1)) fun x3_5 =>
        fDa_seenEvery_4 N δ n_4 v1 x2_4 x3_5
def fDa_seenEvery (N : Nat) (p0 : Int32) (δ : St) : Option (Int32) :=
  fDa_seenEvery_4 N δ N p0 (0 : Int32) (0 : Int32)
def fDa_used (N : Nat) (δ : St) : Option (Int32) :=
  cl1 (fDa_seenEvery N (1 : Int32) δ) fun r_1 =>
  some r_1
def fDa_empty (N : Nat) (δ : St) : Option (Int32) :=
  some (δ 0 17)
def fDa_shutOut (N : Nat) (δ : St) : Option (Int32) :=
  some (δ 0 18)
def fDa_thrownOut (N : Nat) (δ : St) : Option (Int32) :=
  some (δ 0 19)
def fDa_packedMinutes_5 (N : Nat) (δ : St) : Nat → Int64 → Int32 → Option (Int64)
  | 0, _, _ => none
  | n_5 + 1, v1, v3 =>
    if v3 < 0 then
      some v1
    else
      gI v3 8 <|
      nm (((v1 <<< ((8 : Int32).toInt64 &&& 63)) ||| ((δ 4 v3.toNatClampNeg).toInt64))) fun x1_3 =>
      nm (v3 + (-1)) fun x3_4 =>
      fDa_packedMinutes_5 N δ n_5 x1_3 x3_4
def fDa_packedMinutes (N : Nat) (δ : St) : Option (Int64) :=
  fDa_packedMinutes_5 N δ N (0 : Int64) (7 : Int32)
def fGa_playBy_70 (k_31 : Int32 → Int32 → St → (Nat → Int64) → Option (St × (Nat → Int64))) (N : Nat) (ρ : St) (v1 : Int32) (v2 : Int32) (γ : St) (Γ : Nat → Int64) : Option (St × (Nat → Int64)) :=
  nm (v2 + 1) fun x2_1 =>
  k_31 v1 x2_1 γ Γ
def fGa_playBy_31 (N : Nat) (ρ : St) : Nat → Int32 → Int32 → St → (Nat → Int64) → Option (St × (Nat → Int64))
  | 0, _, _, _, _ => none
  | n_31 + 1, v1, v2, γ, Γ =>
    cl1 (fRo_readerCount N ρ) fun r_2 =>
    if r_2 ≤ v2 then
      some (γ, Γ)
    else
      if v1 = (1 : Int32) then
        fGa_playBy_70 (fGa_playBy_31 N ρ n_31) N ρ v1 v2 γ Γ
      else
        cl1 (fRo_goesOff N v2 ρ) fun r_6 =>
        if r_6 = 0 then
          fGa_playBy_70 (fGa_playBy_31 N ρ n_31) N ρ v1 v2 γ Γ
        else
          nm (sA γ 0 (upd (γ 0) 4 ((γ 0 4) ||| ((1 : Int32) <<< (v2 &&& 31))))) fun γ_9 =>
          fGa_playBy_70 (fGa_playBy_31 N ρ n_31) N ρ v1 v2 γ_9 Γ
def fGa_playBy (N : Nat) (p0 : Int32) (ρ : St) (γ : St) (Γ : Nat → Int64) : Option (St × (Nat → Int64)) :=
  if (γ 0 3) = p0 then
    some (γ, Γ)
  else
    nm (sA γ 0 (upd (γ 0) 3 p0)) fun γ_11 =>
    nm (fillL Γ 256 (-1 : Int64)) fun Γ_12 =>
    nm (sA γ_11 0 (upd (γ_11 0) 4 (0 : Int32))) fun γ_13 =>
    fGa_playBy_31 N ρ N p0 (0 : Int32) γ_13 Γ_12
def fGa_minutesIn_20 (N : Nat) (γ : St) (ρ : St) (r0 : Nat) (Γ : Nat → Int64) (δ : St) (dr : Nat) : Option (Int32 × (Nat → Int64) × St × Nat) :=
  some ((0 : Int32), Γ, δ, dr)
def fGa_minutesIn_74 (N : Nat) (γ : St) (ρ : St) (r0 : Nat) (v2 : Int32) (v3 : Int32) (Γ : Nat → Int64) (δ : St) (dr : Nat) : Option (Int32 × (Nat → Int64) × St × Nat) :=
  gI v3 256 <|
  some ((((((Γ v3.toNatClampNeg).toUInt64 >>> (((8 : Int32) * v2).toInt64.toUInt64 &&& Int64.toUInt64 63)).toInt64).toInt32) &&& (255 : Int32)), Γ, δ, dr)
def fGa_minutesIn (N : Nat) (p0 : Int32) (p1 : Int32) (γ : St) (ρ : St) (r0 : Nat) (Γ : Nat → Int64) (δ : St) (dr : Nat) : Option (Int32 × (Nat → Int64) × St × Nat) :=
  nm ((p0 &&& (γ 0 4))) fun x3_2 =>
  if x3_2 < 0 then
    fGa_minutesIn_20 N γ ρ r0 Γ δ dr
  else
    if x3_2 < (256 : Int32) then
      gI x3_2 256 <|
      if (lg_cmp (Γ x3_2.toNatClampNeg) (-1 : Int64)) = 0 then
        cl1 (fDa_open N (γ 0 3) x3_2 ρ δ) fun δ_7 =>
        cl1 (fDa_runTo N (399 : Int32) ρ δ_7) fun δ_9 =>
        cl1 (fDa_packedMinutes N δ_9) fun r_11 =>
        gI x3_2 256 <|
        nm (vp_updL Γ x3_2.toNatClampNeg r_11) fun Γ_14 =>
        fGa_minutesIn_74 N γ ρ r0 p1 x3_2 Γ_14 δ_9 r0
      else
        fGa_minutesIn_74 N γ ρ r0 p1 x3_2 Γ δ dr
    else
      fGa_minutesIn_20 N γ ρ r0 Γ δ dr
def fGa_isRest_2 (N : Nat) (γ : St) (ρ : St) (r0 : Nat) : Nat → Int32 → Int32 → (Nat → Int64) → St → Nat → Option (Int32 × (Nat → Int64) × St × Nat)
  | 0, _, _, _, _, _ => none
  | n_2 + 1, v1, v2, Γ, δ, dr =>
    cl1 (fRo_readerCount N ρ) fun r_1 =>
    if r_1 ≤ v2 then
      some ((1 : Int32), Γ, δ, dr)
    else
      cl4 (fGa_minutesIn N (v1 ^^^ ((1 : Int32) <<< (v2 &&& 31))) v2 γ ρ r0 Γ δ dr) fun r_4 Γ_5 δ_6 dr_7 =>
      cl4 (fGa_minutesIn N v1 v2 γ ρ r0 Γ_5 δ_6 dr_7) fun r_9 Γ_10 δ_11 dr_12 =>
      if r_4 ≤ r_9 then
        nm (v2 + 1) fun x2_15 =>
        fGa_isRest_2 N γ ρ r0 n_2 v1 x2_15 Γ_10 δ_11 dr_12
      else
        some ((0 : Int32), Γ_10, δ_11, dr_12)
def fGa_isRest (N : Nat) (p0 : Int32) (γ : St) (ρ : St) (r0 : Nat) (Γ : Nat → Int64) (δ : St) (dr : Nat) : Option (Int32 × (Nat → Int64) × St × Nat) :=
  fGa_isRest_2 N γ ρ r0 N p0 (0 : Int32) Γ δ dr
def fMa_within_15 (N : Nat) (k0 : Int32) : Option (Int32) :=
  gB k0 <|
  some k0
def fMa_within_14 (N : Nat) : Option (Int32) :=
  fMa_within_15 N (0 : Int32)
def fMa_within (N : Nat) (p0 : Int32) (p1 : Int32) (p2 : Int32) : Option (Int32) :=
  if p0 < p1 then
    fMa_within_14 N
  else
    if p2 < p0 then
      fMa_within_14 N
    else
      fMa_within_15 N (1 : Int32)
def fMa_write_36 (N : Nat) (k0 : Int32) (τ : St) : Option (Int32 × St) :=
  some (k0, τ)
def fMa_write (N : Nat) (p0 : Int32) (p1 : Int64) (τ : St) : Option (Int32 × St) :=
  cl1 (fMa_within N p0 (1 : Int32) (8 : Int32)) fun r_1 =>
  if r_1 = 0 then
    some ((-1 : Int32), τ)
  else
    cl2 (fTe_append N p0 p1 τ) fun r_4 τ_5 =>
    if r_4 = 0 then
      fMa_write_36 N (-3 : Int32) τ_5
    else
      cl1 (fTe_length N τ_5) fun r_8 =>
      fMa_write_36 N r_8 τ_5
def fMa_wipe (N : Nat) (τ : St) : Option (Int32 × St) :=
  cl1 (fTe_length N τ) fun r_1 =>
  cl1 (fTe_clear N τ) fun τ_3 =>
  some (r_1, τ_3)
def fMa_fault (N : Nat) (τ : St) (ς : St) (ε : St) : Option (Int32 × St × St) :=
  cl3 (fSc_readInto N τ ς ε) fun r_1 ς_2 ε_3 =>
  some (r_1, ς_2, ε_3)
def fMa_isReader (N : Nat) (p0 : Int32) (ρ : St) : Option (Int32) :=
  cl1 (fRo_readerCount N ρ) fun r_1 =>
  cl1 (fMa_within N p0 (0 : Int32) (r_1 - (1 : Int32))) fun r_3 =>
  gB r_3 <|
  some r_3
def fMa_reader_18 (N : Nat) (μ : St) (ρ : St) : Option (Int32) :=
  some (-1 : Int32)
def fMa_reader_46 (N : Nat) (μ : St) (ρ : St) (k0 : Int32) : Option (Int32) :=
  some k0
def fMa_reader (N : Nat) (p0 : Int32) (p1 : Int32) (μ : St) (ρ : St) : Option (Int32) :=
  cl1 (fMa_isReader N p0 ρ) fun r_1 =>
  if r_1 = 0 then
    fMa_reader_18 N μ ρ
  else
    cl1 (fMa_within N p1 (0 : Int32) (7 : Int32)) fun r_4 =>
    if r_4 = 0 then
      fMa_reader_18 N μ ρ
    else
      if p1 = (7 : Int32) then
        fMa_reader_46 N μ ρ (((μ 0 9) >>> (p0 &&& 31)) &&& (1 : Int32))
      else
        cl1 (fRo_number N p0 p1 ρ) fun r_8 =>
        fMa_reader_46 N μ ρ r_8
def fMa_isSeat (N : Nat) (p0 : Int32) (ρ : St) : Option (Int32) :=
  cl1 (fRo_seatCount N ρ) fun r_1 =>
  cl1 (fMa_within N p0 (0 : Int32) (r_1 - (1 : Int32))) fun r_3 =>
  gB r_3 <|
  some r_3
def fMa_kind_20 (N : Nat) (ρ : St) (k0 : Int32) : Option (Int32) :=
  some k0
def fMa_kind (N : Nat) (p0 : Int32) (ρ : St) : Option (Int32) :=
  cl1 (fMa_isSeat N p0 ρ) fun r_1 =>
  if r_1 = 0 then
    fMa_kind_20 N ρ (-1 : Int32)
  else
    cl1 (fRo_kindOf N p0 ρ) fun r_4 =>
    fMa_kind_20 N ρ r_4
def fMa_hold_45 (N : Nat) (ρ : St) (v3 : Int32) (k1 : Int32) (μ : St) : Option (Int32 × St) :=
  nm (sA μ 0 (upd (μ 0) 9 k1)) fun μ_1 =>
  some (v3, μ_1)
def fMa_hold (N : Nat) (p0 : Int32) (p1 : Int32) (ρ : St) (μ : St) : Option (Int32 × St) :=
  cl1 (fMa_isReader N p0 ρ) fun r_2 =>
  if r_2 = 0 then
    some ((-1 : Int32), μ)
  else
    nm ((((μ 0 9) >>> (p0 &&& 31)) &&& (1 : Int32))) fun x3_5 =>
    if p1 = 0 then
      fMa_hold_45 N ρ x3_5 ((μ 0 9) &&& (((1 : Int32) <<< (p0 &&& 31)) ^^^ (-1 : Int32))) μ
    else
      fMa_hold_45 N ρ x3_5 ((μ 0 9) ||| ((1 : Int32) <<< (p0 &&& 31))) μ
def fMa_isRule (N : Nat) (p0 : Int32) : Option (Int32) :=
  cl1 (fMa_within N p0 (0 : Int32) (4 : Int32)) fun r_1 =>
  gB r_1 <|
  some r_1
def fMa_seat_36 (N : Nat) (μ : St) (ρ : St) (r0 : Nat) (δ : St) (dr : Nat) : Option (Int32 × St × Nat) :=
  some ((-1 : Int32), δ, dr)
def fMa_seat_101 (N : Nat) (μ : St) (ρ : St) (r0 : Nat) (k0 : Int32) (δ : St) : Option (Int32 × St × Nat) :=
  some (k0, δ, r0)
def fMa_seat_86 (N : Nat) (μ : St) (ρ : St) (r0 : Nat) (k0 : Int32) (δ : St) : Option (Int32 × St × Nat) :=
  if k0 = (-1 : Int32) then
    fMa_seat_101 N μ ρ r0 (-4 : Int32) δ
  else
    fMa_seat_101 N μ ρ r0 k0 δ
def fMa_seat (N : Nat) (p0 : Int32) (p1 : Int32) (p2 : Int32) (p3 : Int32) (μ : St) (ρ : St) (r0 : Nat) (δ : St) (dr : Nat) : Option (Int32 × St × Nat) :=
  cl1 (fMa_isRule N p0) fun r_2 =>
  if r_2 = 0 then
    fMa_seat_36 N μ ρ r0 δ dr
  else
    cl1 (fMa_within N p1 (0 : Int32) (399 : Int32)) fun r_5 =>
    if r_5 = 0 then
      fMa_seat_36 N μ ρ r0 δ dr
    else
      cl1 (fMa_isSeat N p2 ρ) fun r_8 =>
      if r_8 = 0 then
        fMa_seat_36 N μ ρ r0 δ dr
      else
        cl1 (fMa_within N p3 (0 : Int32) (1 : Int32)) fun r_11 =>
        if r_11 = 0 then
          fMa_seat_36 N μ ρ r0 δ dr
        else
          cl1 (fDa_open N p0 (μ 0 9) ρ δ) fun δ_14 =>
          cl1 (fDa_runTo N p1 ρ δ_14) fun δ_16 =>
          if p3 = 0 then
            cl1 (fDa_sitterOf N p2 δ_16) fun r_21 =>
            fMa_seat_86 N μ ρ r0 r_21 δ_16
          else
            cl1 (fDa_holderOf N p2 δ_16) fun r_19 =>
            fMa_seat_86 N μ ρ r0 r_19 δ_16
def fMa_does_26 (N : Nat) (μ : St) (ρ : St) (r0 : Nat) (δ : St) (dr : Nat) : Option (Int32 × St × Nat) :=
  some ((-1 : Int32), δ, dr)
def fMa_does (N : Nat) (p0 : Int32) (p1 : Int32) (p2 : Int32) (μ : St) (ρ : St) (r0 : Nat) (δ : St) (dr : Nat) : Option (Int32 × St × Nat) :=
  cl1 (fMa_isRule N p0) fun r_1 =>
  if r_1 = 0 then
    fMa_does_26 N μ ρ r0 δ dr
  else
    cl1 (fMa_within N p1 (0 : Int32) (399 : Int32)) fun r_4 =>
    if r_4 = 0 then
      fMa_does_26 N μ ρ r0 δ dr
    else
      cl1 (fMa_isReader N p2 ρ) fun r_7 =>
      if r_7 = 0 then
        fMa_does_26 N μ ρ r0 δ dr
      else
        cl1 (fDa_open N p0 (μ 0 9) ρ δ) fun δ_10 =>
        cl1 (fDa_runTo N p1 ρ δ_10) fun δ_12 =>
        cl1 (fDa_stateOf N p2 δ_12) fun r_14 =>
        some (r_14, δ_12, r0)
def fMa_runWhole (N : Nat) (p0 : Int32) (μ : St) (ρ : St) (δ : St) : Option (St) :=
  cl1 (fDa_open N p0 (μ 0 9) ρ δ) fun δ_1 =>
  cl1 (fDa_runTo N (399 : Int32) ρ δ_1) fun δ_3 =>
  some δ_3
def fMa_day_16 (N : Nat) (μ : St) (ρ : St) (r0 : Nat) (δ : St) (dr : Nat) : Option (Int32 × St × Nat) :=
  some ((-1 : Int32), δ, dr)
def fMa_day (N : Nat) (p0 : Int32) (p1 : Int32) (μ : St) (ρ : St) (r0 : Nat) (δ : St) (dr : Nat) : Option (Int32 × St × Nat) :=
  cl1 (fMa_isRule N p0) fun r_1 =>
  if r_1 = 0 then
    fMa_day_16 N μ ρ r0 δ dr
  else
    cl1 (fMa_within N p1 (0 : Int32) (5 : Int32)) fun r_4 =>
    if r_4 = 0 then
      fMa_day_16 N μ ρ r0 δ dr
    else
      cl1 (fMa_runWhole N p0 μ ρ δ) fun δ_7 =>
      if p1 = 0 then
        cl1 (fDa_used N δ_7) fun r_10 =>
        some (r_10, δ_7, r0)
      else
        if p1 = 1 then
          cl1 (fDa_empty N δ_7) fun r_13 =>
          some (r_13, δ_7, r0)
        else
          if p1 = 2 then
            cl1 (fDa_shutOut N δ_7) fun r_16 =>
            cl1 (fBc_bitCount_0f7a4 N r_16) fun r_18 =>
            some (r_18, δ_7, r0)
          else
            if p1 = 3 then
              cl1 (fDa_shutOut N δ_7) fun r_21 =>
              some (r_21, δ_7, r0)
            else
              if p1 = 4 then
                cl1 (fDa_thrownOut N δ_7) fun r_24 =>
                cl1 (fBc_bitCount_0f7a4 N r_24) fun r_26 =>
                some (r_26, δ_7, r0)
              else
                cl1 (fDa_thrownOut N δ_7) fun r_28 =>
                some (r_28, δ_7, r0)
def fMa_sat_15 (N : Nat) (μ : St) (ρ : St) (r0 : Nat) (δ : St) (dr : Nat) : Option (Int32 × St × Nat) :=
  some ((-1 : Int32), δ, dr)
def fMa_sat (N : Nat) (p0 : Int32) (p1 : Int32) (μ : St) (ρ : St) (r0 : Nat) (δ : St) (dr : Nat) : Option (Int32 × St × Nat) :=
  cl1 (fMa_isRule N p0) fun r_1 =>
  if r_1 = 0 then
    fMa_sat_15 N μ ρ r0 δ dr
  else
    cl1 (fMa_isReader N p1 ρ) fun r_4 =>
    if r_4 = 0 then
      fMa_sat_15 N μ ρ r0 δ dr
    else
      cl1 (fMa_runWhole N p0 μ ρ δ) fun δ_7 =>
      cl1 (fDa_minutesOf N p1 δ_7) fun r_9 =>
      some (r_9, δ_7, r0)
def fMa_betters_73 (N : Nat) (μ : St) (k0 : Int32) : Option (Int32) :=
  gB k0 <|
  some k0
def fMa_betters_72 (N : Nat) (μ : St) : Option (Int32) :=
  fMa_betters_73 N μ (0 : Int32)
def fMa_betters (N : Nat) (p0 : Int32) (p1 : Int32) (μ : St) : Option (Int32) :=
  gI p0 5 <|
  gI p1 5 <|
  nm (((μ 5 p0.toNatClampNeg) - (μ 5 p1.toNatClampNeg))) fun x3_4 =>
  gI p1 5 <|
  gI p0 5 <|
  nm (((μ 6 p1.toNatClampNeg) - (μ 6 p0.toNatClampNeg))) fun x4_7 =>
  gI p1 5 <|
  gI p0 5 <|
  nm (((μ 7 p1.toNatClampNeg) - (μ 7 p0.toNatClampNeg))) fun x5_10 =>
  if x3_4 < 0 then
    fMa_betters_72 N μ
  else
    if x4_7 < 0 then
      fMa_betters_72 N μ
    else
      if x5_10 < 0 then
        fMa_betters_72 N μ
      else
        if ((x3_4 + x4_7) + x5_10) ≤ 0 then
          fMa_betters_72 N μ
        else
          fMa_betters_73 N μ (1 : Int32)
def fMa_bettered_96 (k_74 : Int32 → Int32 → Int32 → St → St → Nat → Option (Int32 × St × St × Nat)) (N : Nat) (ρ : St) (r0 : Nat) (v2 : Int32) (v3 : Int32) (k0 : Int32) (k1 : Int32) (μ : St) (δ : St) (dr : Nat) : Option (Int32 × St × St × Nat) :=
  nm ((k0 ||| k1)) fun x1_1 =>
  nm (v3 + 1) fun x3_2 =>
  k_74 x1_1 v2 x3_2 μ δ dr
def fMa_bettered_74 (k_67 : Int32 → Int32 → St → St → Nat → Option (Int32 × St × St × Nat)) (N : Nat) (ρ : St) (r0 : Nat) : Nat → Int32 → Int32 → Int32 → St → St → Nat → Option (Int32 × St × St × Nat)
  | 0, _, _, _, _, _, _ => none
  | n_74 + 1, v1, v2, v3, μ, δ, dr =>
    if (5 : Int32) ≤ v3 then
      nm (v2 + 1) fun x2_4 =>
      k_67 v1 x2_4 μ δ dr
    else
      cl1 (fMa_betters N v3 v2 μ) fun r_5 =>
      if r_5 = 0 then
        fMa_bettered_96 (fMa_bettered_74 k_67 N ρ r0 n_74) N ρ r0 v2 v3 v1 (0 : Int32) μ δ dr
      else
        fMa_bettered_96 (fMa_bettered_74 k_67 N ρ r0 n_74) N ρ r0 v2 v3 v1 ((1 : Int32) <<< (v2 &&& 31)) μ δ dr
def fMa_bettered_67 (N : Nat) (ρ : St) (r0 : Nat) : Nat → Int32 → Int32 → St → St → Nat → Option (Int32 × St × St × Nat)
  | 0, _, _, _, _, _ => none
  | n_67 + 1, v1, v2, μ, δ, dr =>
    if (5 : Int32) ≤ v2 then
      some (v1, μ, δ, dr)
    else
      fMa_bettered_74 (fMa_bettered_67 N ρ r0 n_67) N ρ r0 N v1 v2 (0 : Int32) μ δ dr
def fMa_bettered_2 (N : Nat) (ρ : St) (r0 : Nat) : Nat → Int32 → St → St → Nat → Option (Int32 × St × St × Nat)
  | 0, _, _, _, _ => none
  | n_2 + 1, v1, μ, δ, dr =>
    if (5 : Int32) ≤ v1 then
      fMa_bettered_67 N ρ r0 N (0 : Int32) (0 : Int32) μ δ dr
    else
      cl1 (fMa_runWhole N v1 μ ρ δ) fun δ_10 =>
      cl1 (fDa_used N δ_10) fun r_12 =>
      gI v1 5 <|
      nm (sA μ 5 (upd (μ 5) v1.toNatClampNeg r_12)) fun μ_15 =>
      cl1 (fDa_shutOut N δ_10) fun r_16 =>
      cl1 (fBc_bitCount_0f7a4 N r_16) fun r_18 =>
      gI v1 5 <|
      nm (sA μ_15 6 (upd (μ_15 6) v1.toNatClampNeg r_18)) fun μ_21 =>
      cl1 (fDa_thrownOut N δ_10) fun r_22 =>
      cl1 (fBc_bitCount_0f7a4 N r_22) fun r_24 =>
      gI v1 5 <|
      nm (sA μ_21 7 (upd (μ_21 7) v1.toNatClampNeg r_24)) fun μ_27 =>
      nm (v1 + 1) fun x1_28 =>
      fMa_bettered_2 N ρ r0 n_2 x1_28 μ_27 δ_10 r0
def fMa_bettered (N : Nat) (ρ : St) (r0 : Nat) (μ : St) (δ : St) (dr : Nat) : Option (Int32 × St × St × Nat) :=
  fMa_bettered_2 N ρ r0 N (0 : Int32) μ δ dr
def fMa_rest_22 (N : Nat) (ρ : St) (r0 : Nat) (γ : St) (Γ : Nat → Int64) (δ : St) (dr : Nat) : Option (Int32 × St × (Nat → Int64) × St × Nat) :=
  some ((-1 : Int32), γ, Γ, δ, dr)
def fMa_rest_48 (N : Nat) (ρ : St) (r0 : Nat) (k0 : Int32) (γ : St) (Γ : Nat → Int64) (δ : St) (dr : Nat) : Option (Int32 × St × (Nat → Int64) × St × Nat) :=
  some (k0, γ, Γ, δ, dr)
def fMa_rest (N : Nat) (p0 : Int32) (p1 : Int32) (ρ : St) (r0 : Nat) (γ : St) (Γ : Nat → Int64) (δ : St) (dr : Nat) : Option (Int32 × St × (Nat → Int64) × St × Nat) :=
  cl1 (fMa_isRule N p0) fun r_1 =>
  if r_1 = 0 then
    fMa_rest_22 N ρ r0 γ Γ δ dr
  else
    cl1 (fRo_everybody N ρ) fun r_4 =>
    cl1 (fMa_within N p1 (0 : Int32) r_4) fun r_6 =>
    if r_6 = 0 then
      fMa_rest_22 N ρ r0 γ Γ δ dr
    else
      cl2 (fGa_playBy N p0 ρ γ Γ) fun γ_9 Γ_10 =>
      cl4 (fGa_isRest N p1 γ_9 ρ r0 Γ_10 δ dr) fun r_12 Γ_13 δ_14 dr_15 =>
      if r_12 = 0 then
        fMa_rest_48 N ρ r0 (0 : Int32) γ_9 Γ_13 δ_14 dr_15
      else
        fMa_rest_48 N ρ r0 (1 : Int32) γ_9 Γ_13 δ_14 dr_15
def fMa_rests_16 (N : Nat) (ρ : St) (r0 : Nat) (γ : St) (Γ : Nat → Int64) (δ : St) (dr : Nat) : Option (Int32 × St × (Nat → Int64) × St × Nat) :=
  some ((-1 : Int32), γ, Γ, δ, dr)
def fMa_rests_86 (k_39 : Int32 → Int32 → Int32 → Int32 → Int32 → St → (Nat → Int64) → St → Nat → Option (Int32 × St × (Nat → Int64) × St × Nat)) (N : Nat) (ρ : St) (r0 : Nat) (v2 : Int32) (v3 : Int32) (v4 : Int32) (v5 : Int32) (v6 : Int32) (γ : St) (Γ : Nat → Int64) (δ : St) (dr : Nat) : Option (Int32 × St × (Nat → Int64) × St × Nat) :=
  nm (v6 + 1) fun x6_1 =>
  k_39 v2 v3 v4 v5 x6_1 γ Γ δ dr
def fMa_rests_80 (k_39 : Int32 → Int32 → Int32 → Int32 → Int32 → St → (Nat → Int64) → St → Nat → Option (Int32 × St × (Nat → Int64) × St × Nat)) (N : Nat) (ρ : St) (r0 : Nat) (v2 : Int32) (v3 : Int32) (v6 : Int32) (k0 : Int32) (γ : St) (Γ : Nat → Int64) (δ : St) (dr : Nat) : Option (Int32 × St × (Nat → Int64) × St × Nat) :=
  fMa_rests_86 k_39 N ρ r0 v2 v3 k0 v6 v6 γ Γ δ dr
def fMa_rests_112 (N : Nat) (ρ : St) (r0 : Nat) (k0 : Int32) (γ : St) (Γ : Nat → Int64) (δ : St) (dr : Nat) : Option (Int32 × St × (Nat → Int64) × St × Nat) :=
  some (k0, γ, Γ, δ, dr)
def fMa_rests_39 (N : Nat) (ρ : St) (r0 : Nat) : Nat → Int32 → Int32 → Int32 → Int32 → Int32 → St → (Nat → Int64) → St → Nat → Option (Int32 × St × (Nat → Int64) × St × Nat)
  | 0, _, _, _, _, _, _, _, _, _ => none
  | n_39 + 1, v2, v3, v4, v5, v6, γ, Γ, δ, dr =>
    cl1 (fRo_everybody N ρ) fun r_2 =>
    if r_2 < v6 then
      if v2 = 0 then
        fMa_rests_112 N ρ r0 v3 γ Γ δ dr
      else
        if v2 = (1 : Int32) then
          fMa_rests_112 N ρ r0 v4 γ Γ δ dr
        else
          fMa_rests_112 N ρ r0 v5 γ Γ δ dr
    else
      cl4 (fGa_isRest N v6 γ ρ r0 Γ δ dr) fun r_7 Γ_8 δ_9 dr_10 =>
      if r_7 = 0 then
        fMa_rests_86 (fMa_rests_39 N ρ r0 n_39) N ρ r0 v2 v3 v4 v5 v6 γ Γ_8 δ_9 dr_10
      else
        nm (v3 + 1) fun x3_13 =>
        if v4 = (-4 : Int32) then
          fMa_rests_80 (fMa_rests_39 N ρ r0 n_39) N ρ r0 v2 x3_13 v6 v6 γ Γ_8 δ_9 dr_10
        else
          fMa_rests_80 (fMa_rests_39 N ρ r0 n_39) N ρ r0 v2 x3_13 v6 v4 γ Γ_8 δ_9 dr_10
def fMa_rests (N : Nat) (p0 : Int32) (p1 : Int32) (ρ : St) (r0 : Nat) (γ : St) (Γ : Nat → Int64) (δ : St) (dr : Nat) : Option (Int32 × St × (Nat → Int64) × St × Nat) :=
  cl1 (fMa_isRule N p0) fun r_15 =>
  if r_15 = 0 then
    fMa_rests_16 N ρ r0 γ Γ δ dr
  else
    cl1 (fMa_within N p1 (0 : Int32) (2 : Int32)) fun r_18 =>
    if r_18 = 0 then
      fMa_rests_16 N ρ r0 γ Γ δ dr
    else
      cl2 (fGa_playBy N p0 ρ γ Γ) fun γ_21 Γ_22 =>
      fMa_rests_39 N ρ r0 N p1 (0 : Int32) (-4 : Int32) (-4 : Int32) (0 : Int32) γ_21 Γ_22 δ dr
def fMa_rounds_17 (N : Nat) (μ : St) (ρ : St) (r0 : Nat) (δ : St) (dr : Nat) : Option (Int32 × St × Nat) :=
  some ((-1 : Int32), δ, dr)
def fMa_rounds (N : Nat) (p0 : Int32) (p1 : Int32) (μ : St) (ρ : St) (r0 : Nat) (δ : St) (dr : Nat) : Option (Int32 × St × Nat) :=
  cl1 (fMa_isRule N p0) fun r_1 =>
  if r_1 = 0 then
    fMa_rounds_17 N μ ρ r0 δ dr
  else
    cl1 (fMa_within N p1 (1 : Int32) (99 : Int32)) fun r_4 =>
    if r_4 = 0 then
      fMa_rounds_17 N μ ρ r0 δ dr
    else
      cl1 (fMa_runWhole N p0 μ ρ δ) fun δ_7 =>
      cl1 (fDa_seenEvery N p1 δ_7) fun r_9 =>
      some (r_9, δ_7, r0)
def fMa_often_18 (N : Nat) (μ : St) (ρ : St) (r0 : Nat) (δ : St) (dr : Nat) : Option (Int32 × St × Nat) :=
  some ((-1 : Int32), δ, dr)
def fMa_often_37 (N : Nat) (μ : St) (ρ : St) (r0 : Nat) : Nat → Int32 → Int32 → Int32 → St → Option (Int32 × St × Nat)
  | 0, _, _, _, _ => none
  | n_37 + 1, v2, v3, v4, δ =>
    if v4 < (1 : Int32) then
      some ((-4 : Int32), δ, r0)
    else
      cl1 (fDa_seenEvery N v4 δ) fun r_2 =>
      if v2 < (if 0 ≤ (r_2 - v3) then (r_2 - v3) else 0 - (r_2 - v3)) then
        nm (v4 + (-1)) fun x4_5 =>
        fMa_often_37 N μ ρ r0 n_37 v2 v3 x4_5 δ
      else
        some (v4, δ, r0)
def fMa_often (N : Nat) (p0 : Int32) (p1 : Int32) (μ : St) (ρ : St) (r0 : Nat) (δ : St) (dr : Nat) : Option (Int32 × St × Nat) :=
  cl1 (fMa_isRule N p0) fun r_6 =>
  if r_6 = 0 then
    fMa_often_18 N μ ρ r0 δ dr
  else
    cl1 (fMa_within N p1 (0 : Int32) (9999 : Int32)) fun r_9 =>
    if r_9 = 0 then
      fMa_often_18 N μ ρ r0 δ dr
    else
      cl1 (fMa_runWhole N p0 μ ρ δ) fun δ_12 =>
      cl1 (fDa_used N δ_12) fun r_14 =>
      fMa_often_37 N μ ρ r0 N p1 r_14 (99 : Int32) δ_12
def fMa_shutOutByCards (N : Nat) (p0 : Int32) (p1 : Int32) (μ : St) (ρ : St) (δ : St) : Option (Int32 × St) :=
  cl1 (fDa_open N (2 : Int32) (μ 0 9) ρ δ) fun δ_1 =>
  cl1 (fDa_useCards N p0 p1 δ_1) fun δ_3 =>
  cl1 (fDa_runTo N (399 : Int32) ρ δ_3) fun δ_5 =>
  cl1 (fDa_shutOut N δ_5) fun r_7 =>
  cl1 (fBc_bitCount_0f7a4 N r_7) fun r_9 =>
  some (r_9, δ_5)
def fMa_porter_15 (N : Nat) (μ : St) (ρ : St) (r0 : Nat) : Nat → Int32 → Int32 → St → Nat → Option (Int32 × St × Nat)
  | 0, _, _, _, _ => none
  | n_15 + 1, v1, v2, δ, dr =>
    if v2 < (1 : Int32) then
      some ((-4 : Int32), δ, dr)
    else
      cl1 (fRo_cardMinutes N ρ) fun r_2 =>
      cl2 (fMa_shutOutByCards N r_2 v2 μ ρ δ) fun r_4 δ_5 =>
      if v1 < r_4 then
        nm (v2 + (-1)) fun x2_8 =>
        fMa_porter_15 N μ ρ r0 n_15 v1 x2_8 δ_5 r0
      else
        some (v2, δ_5, r0)
def fMa_porter (N : Nat) (p0 : Int32) (μ : St) (ρ : St) (r0 : Nat) (δ : St) (dr : Nat) : Option (Int32 × St × Nat) :=
  cl1 (fMa_within N p0 (0 : Int32) (8 : Int32)) fun r_9 =>
  if r_9 = 0 then
    some ((-1 : Int32), δ, dr)
  else
    fMa_porter_15 N μ ρ r0 N p0 (99 : Int32) δ dr
def fMa_card_15 (N : Nat) (μ : St) (ρ : St) (r0 : Nat) : Nat → Int32 → Int32 → St → Nat → Option (Int32 × St × Nat)
  | 0, _, _, _, _ => none
  | n_15 + 1, v1, v2, δ, dr =>
    if v2 < (1 : Int32) then
      some ((-4 : Int32), δ, dr)
    else
      cl1 (fRo_porterMinutes N ρ) fun r_2 =>
      cl2 (fMa_shutOutByCards N v2 r_2 μ ρ δ) fun r_4 δ_5 =>
      if v1 < r_4 then
        nm (v2 + (-1)) fun x2_8 =>
        fMa_card_15 N μ ρ r0 n_15 v1 x2_8 δ_5 r0
      else
        some (v2, δ_5, r0)
def fMa_card (N : Nat) (p0 : Int32) (μ : St) (ρ : St) (r0 : Nat) (δ : St) (dr : Nat) : Option (Int32 × St × Nat) :=
  cl1 (fMa_within N p0 (0 : Int32) (8 : Int32)) fun r_9 =>
  if r_9 = 0 then
    some ((-1 : Int32), δ, dr)
  else
    fMa_card_15 N μ ρ r0 N p0 (99 : Int32) δ dr
def fMa_booked_40 (N : Nat) : Option (Int64) :=
  some (-1 : Int64)
def fMa_booked_92 (N : Nat) (v9 : Int64) (k0 : Int64) : Option (Int64) :=
  gZL (v9) <|
  some (k0 / v9)
def fMa_booked (N : Nat) (p0 : Int32) (p1 : Int32) (p2 : Int32) (p3 : Int32) : Option (Int64) :=
  cl1 (fMa_within N p0 (1 : Int32) (14 : Int32)) fun r_2 =>
  if r_2 = 0 then
    fMa_booked_40 N
  else
    cl1 (fMa_within N p1 (1 : Int32) (14 : Int32)) fun r_5 =>
    if r_5 = 0 then
      fMa_booked_40 N
    else
      cl1 (fMa_within N p2 (0 : Int32) (10 : Int32)) fun r_8 =>
      if r_8 = 0 then
        fMa_booked_40 N
      else
        cl1 (fMa_within N p3 (0 : Int32) (1 : Int32)) fun r_11 =>
        if r_11 = 0 then
          fMa_booked_40 N
        else
          cl1 (fOd_noMoreThan N p0 p1 p2) fun r_14 =>
          cl1 (fOd_power N (10 : Int32) p0) fun r_16 =>
          cl1 (fOd_commonDivisor N r_14 r_16) fun r_18 =>
          if 0 ≤ (lg_cmp r_18 (1 : Int64)) then
            if p3 = 0 then
              fMa_booked_92 N r_18 r_14
            else
              fMa_booked_92 N r_18 r_16
          else
            some (-1 : Int64)
def fMa_over_30 (N : Nat) : Option (Int32) :=
  some (-1 : Int32)
def fMa_over_36 (N : Nat) : Nat → Int32 → Int32 → Int32 → Int32 → Option (Int32)
  | 0, _, _, _, _ => none
  | n_36 + 1, v1, v2, v3, v4 =>
    if v4 < v1 then
      some (-4 : Int32)
    else
      cl1 (fOd_noMoreThan N v4 v1 v2) fun r_2 =>
      cl1 (fOd_power N (10 : Int32) v4) fun r_4 =>
      if (lg_cmp (r_2 * (100 : Int64)) (r_4 * (v3.toInt64))) < 0 then
        nm (v4 + (-1)) fun x4_7 =>
        fMa_over_36 N n_36 v1 v2 v3 x4_7
      else
        some v4
def fMa_over (N : Nat) (p0 : Int32) (p1 : Int32) (p2 : Int32) : Option (Int32) :=
  cl1 (fMa_within N p0 (1 : Int32) (14 : Int32)) fun r_8 =>
  if r_8 = 0 then
    fMa_over_30 N
  else
    cl1 (fMa_within N p1 (0 : Int32) (10 : Int32)) fun r_11 =>
    if r_11 = 0 then
      fMa_over_30 N
    else
      cl1 (fMa_within N p2 (0 : Int32) (100 : Int32)) fun r_14 =>
      if r_14 = 0 then
        fMa_over_30 N
      else
        fMa_over_36 N N p0 p1 p2 (14 : Int32)
def fMa_dare_29 (N : Nat) (ρ : St) : Option (Int32) :=
  some (-1 : Int32)
def fMa_dare_103 (k_40 : Int32 → Int32 → Int32 → Int32 → Int32 → Int32 → Option (Int32)) (N : Nat) (ρ : St) (v1 : Int32) (v2 : Int32) (v3 : Int32) (v4 : Int32) (v5 : Int32) (v6 : Int32) : Option (Int32) :=
  nm (v6 + 1) fun x6_1 =>
  k_40 v1 v2 v3 v4 v5 x6_1
def fMa_dare_100 (k_40 : Int32 → Int32 → Int32 → Int32 → Int32 → Int32 → Option (Int32)) (N : Nat) (ρ : St) (v1 : Int32) (v2 : Int32) (v3 : Int32) (v4 : Int32) (v6 : Int32) (k0 : Int32) (k1 : Int32) : Option (Int32) :=
  nm ((k0 + k1)) fun x5_2 =>
  fMa_dare_103 k_40 N ρ v1 v2 v3 v4 x5_2 v6
def fMa_dare_128 (N : Nat) (ρ : St) (k0 : Int32) : Option (Int32) :=
  some k0
def fMa_dare_40 (N : Nat) (ρ : St) : Nat → Int32 → Int32 → Int32 → Int32 → Int32 → Int32 → Option (Int32)
  | 0, _, _, _, _, _, _ => none
  | n_40 + 1, v1, v2, v3, v4, v5, v6 =>
    cl1 (fRo_readerCount N ρ) fun r_3 =>
    if r_3 ≤ v6 then
      if v4 = 0 then
        some (-4 : Int32)
      else
        if v3 = 0 then
          fMa_dare_128 N ρ v5
        else
          fMa_dare_128 N ρ v4
    else
      cl1 (fRo_number N v6 (3 : Int32) ρ) fun r_8 =>
      cl1 (fRo_goesOff N v6 ρ) fun r_10 =>
      if r_10 = 0 then
        fMa_dare_103 (fMa_dare_40 N ρ n_40) N ρ v1 v2 v3 v4 v5 v6
      else
        if r_8 ≤ v1 then
          fMa_dare_103 (fMa_dare_40 N ρ n_40) N ρ v1 v2 v3 v4 v5 v6
        else
          nm (v4 + 1) fun x4_14 =>
          if (v1 + v2) < r_8 then
            fMa_dare_100 (fMa_dare_40 N ρ n_40) N ρ v1 v2 v3 x4_14 v6 v5 (0 : Int32)
          else
            fMa_dare_100 (fMa_dare_40 N ρ n_40) N ρ v1 v2 v3 x4_14 v6 v5 (1 : Int32)
def fMa_dare (N : Nat) (p0 : Int32) (p1 : Int32) (p2 : Int32) (ρ : St) : Option (Int32) :=
  cl1 (fMa_within N p0 (0 : Int32) (98 : Int32)) fun r_16 =>
  if r_16 = 0 then
    fMa_dare_29 N ρ
  else
    cl1 (fMa_within N p1 (1 : Int32) (99 : Int32)) fun r_19 =>
    if r_19 = 0 then
      fMa_dare_29 N ρ
    else
      cl1 (fMa_within N p2 (0 : Int32) (1 : Int32)) fun r_22 =>
      if r_22 = 0 then
        fMa_dare_29 N ρ
      else
        fMa_dare_40 N ρ N p0 p1 p2 (0 : Int32) (0 : Int32) (0 : Int32)
def fMa_shutOutByDraw (N : Nat) (p0 : Int32) (p1 : Int32) (μ : St) (ρ : St) (δ : St) : Option (Int32 × St) :=
  cl1 (fDa_open N p1 (μ 0 9) ρ δ) fun δ_1 =>
  cl1 (fDa_comeLater N p0 ρ δ_1) fun δ_3 =>
  cl1 (fDa_runTo N (399 : Int32) ρ δ_3) fun δ_5 =>
  cl1 (fDa_shutOut N δ_5) fun r_7 =>
  cl1 (fBc_bitCount_0f7a4 N r_7) fun r_9 =>
  some (r_9, δ_5)
def fMa_drawn_18 (N : Nat) (μ : St) (ρ : St) (r0 : Nat) (δ : St) (dr : Nat) : Option (Int32 × St × Nat) :=
  some ((-1 : Int32), δ, dr)
def fMa_drawn (N : Nat) (p0 : Int32) (p1 : Int32) (μ : St) (ρ : St) (r0 : Nat) (δ : St) (dr : Nat) : Option (Int32 × St × Nat) :=
  cl1 (fMa_within N p0 (0 : Int32) (9999 : Int32)) fun r_1 =>
  if r_1 = 0 then
    fMa_drawn_18 N μ ρ r0 δ dr
  else
    cl1 (fMa_isRule N p1) fun r_4 =>
    if r_4 = 0 then
      fMa_drawn_18 N μ ρ r0 δ dr
    else
      cl2 (fMa_shutOutByDraw N p0 p1 μ ρ δ) fun r_7 δ_8 =>
      some (r_7, δ_8, r0)
def fMa_ten_18 (N : Nat) (μ : St) (ρ : St) (r0 : Nat) (δ : St) (dr : Nat) : Option (Int32 × St × Nat) :=
  some ((-1 : Int32), δ, dr)
def fMa_ten_54 (k_25 : Int32 → Int32 → Int32 → Int32 → St → Nat → Option (Int32 × St × Nat)) (N : Nat) (μ : St) (ρ : St) (r0 : Nat) (v1 : Int32) (v2 : Int32) (v4 : Int32) (k0 : Int32) (k1 : Int32) (δ : St) : Option (Int32 × St × Nat) :=
  nm ((k0 + k1)) fun x3_1 =>
  nm (v4 + 1) fun x4_2 =>
  k_25 v1 v2 x3_1 x4_2 δ r0
def fMa_ten_25 (N : Nat) (μ : St) (ρ : St) (r0 : Nat) : Nat → Int32 → Int32 → Int32 → Int32 → St → Nat → Option (Int32 × St × Nat)
  | 0, _, _, _, _, _, _ => none
  | n_25 + 1, v1, v2, v3, v4, δ, dr =>
    if (10 : Int32) ≤ v4 then
      some (v3, δ, dr)
    else
      cl2 (fMa_shutOutByDraw N ((v1 + v4) - (v1 + v4) / (10000 : Int32) * (10000 : Int32)) v2 μ ρ δ) fun r_4 δ_5 =>
      if r_4 = 0 then
        fMa_ten_54 (fMa_ten_25 N μ ρ r0 n_25) N μ ρ r0 v1 v2 v4 v3 (1 : Int32) δ_5
      else
        fMa_ten_54 (fMa_ten_25 N μ ρ r0 n_25) N μ ρ r0 v1 v2 v4 v3 (0 : Int32) δ_5
def fMa_ten (N : Nat) (p0 : Int32) (p1 : Int32) (μ : St) (ρ : St) (r0 : Nat) (δ : St) (dr : Nat) : Option (Int32 × St × Nat) :=
  cl1 (fMa_within N p0 (0 : Int32) (9999 : Int32)) fun r_8 =>
  if r_8 = 0 then
    fMa_ten_18 N μ ρ r0 δ dr
  else
    cl1 (fMa_isRule N p1) fun r_11 =>
    if r_11 = 0 then
      fMa_ten_18 N μ ρ r0 δ dr
    else
      fMa_ten_25 N μ ρ r0 N p0 p1 (0 : Int32) (0 : Int32) δ dr
def fMa_keep_19 (N : Nat) (μ : St) : Option (Int32 × St) :=
  some ((-3 : Int32), μ)
def fMa_keep (N : Nat) (μ : St) : Option (Int32 × St) :=
  if (μ 0 8) < 0 then
    fMa_keep_19 N μ
  else
    if (μ 0 8) < (2 : Int32) then
      gI (μ 0 8) 2 <|
      nm (sA μ 8 (upd (μ 8) (μ 0 8).toNatClampNeg (μ 0 9))) fun μ_4 =>
      nm (sA μ_4 0 (upd (μ_4 0) 8 ((μ_4 0 8) + (1 : Int32)))) fun μ_5 =>
      some ((μ_5 0 8), μ_5)
    else
      fMa_keep_19 N μ
def fMa_back_20 (N : Nat) (μ : St) : Option (Int32 × St) :=
  some ((-2 : Int32), μ)
def fMa_back (N : Nat) (μ : St) : Option (Int32 × St) :=
  if (μ 0 8) < (1 : Int32) then
    fMa_back_20 N μ
  else
    if (μ 0 8) ≤ (2 : Int32) then
      nm (sA μ 0 (upd (μ 0) 8 ((μ 0 8) - (1 : Int32)))) fun μ_3 =>
      gI (μ_3 0 8) 2 <|
      nm (sA μ_3 0 (upd (μ_3 0) 9 (μ_3 8 (μ_3 0 8).toNatClampNeg))) fun μ_5 =>
      some ((μ_5 0 8), μ_5)
    else
      fMa_back_20 N μ
def fMa_count (N : Nat) (p0 : Int32) (μ : St) (τ : St) (ρ : St) : Option (Int32) :=
  if p0 = 0 then
    cl1 (fRo_seatCount N ρ) fun r_2 =>
    some r_2
  else
    if p0 = 1 then
      cl1 (fRo_readerCount N ρ) fun r_5 =>
      some r_5
    else
      if p0 = 2 then
        cl1 (fTe_length N τ) fun r_8 =>
        some r_8
      else
        if p0 = 3 then
          cl1 (fBc_bitCount_0f7a4 N (μ 0 9)) fun r_11 =>
          some r_11
        else
          if p0 = 4 then
            some (μ 0 8)
          else
            some (-1 : Int32)
def fMo_in_18 (N : Nat) (k0 : Int32) : Option (Int32) :=
  gB k0 <|
  some k0
def fMo_in_17 (N : Nat) : Option (Int32) :=
  fMo_in_18 N (0 : Int32)
def fMo_in (N : Nat) (p0 : Int64) (p1 : Int64) (p2 : Int64) : Option (Int32) :=
  if (lg_cmp p0 p1) < 0 then
    fMo_in_17 N
  else
    if 0 < (lg_cmp p0 p2) then
      fMo_in_17 N
    else
      fMo_in_18 N (1 : Int32)
def fMo_write_34 (N : Nat) : Nat → Int64 → Int32 → St → Option (Int32 × St)
  | 0, _, _, _ => none
  | n_34 + 1, v2, v4, σ =>
    if v4 < 0 then
      some ((σ 0 0), σ)
    else
      gI (σ 0 0) 400 <|
      nm (sA σ 2 (upd (σ 2) (σ 0 0).toNatClampNeg (vp_nar .byte (((v2 >>> (((8 : Int32) * v4).toInt64 &&& 63)).toInt32).toInt8.toInt32)))) fun σ_3 =>
      nm (sA σ_3 0 (upd (σ_3 0) 0 ((σ_3 0 0) + (1 : Int32)))) fun σ_4 =>
      nm (v4 + (-1)) fun x4_5 =>
      fMo_write_34 N n_34 v2 x4_5 σ_4
def fMo_write (N : Nat) (p0 : Int32) (p1 : Int64) (σ : St) : Option (Int32 × St) :=
  cl1 (fMo_in N (p0.toInt64) (1 : Int64) (8 : Int64)) fun r_6 =>
  if r_6 = 0 then
    some ((-1 : Int32), σ)
  else
    if ((σ 0 0) + p0) ≤ (400 : Int32) then
      nm ((p0 - (1 : Int32))) fun x4_10 =>
      fMo_write_34 N N p1 x4_10 σ
    else
      some ((-3 : Int32), σ)
def fMo_wipe (N : Nat) (σ : St) : Option (Int32 × St) :=
  nm ((σ 0 0)) fun x1_1 =>
  nm (sA σ 0 (upd (σ 0) 0 (0 : Int32))) fun σ_2 =>
  some (x1_1, σ_2)
def fMo_number_63 (k_4 : Int32 → Int32 → St → Option (Int32 × St)) (N : Nat) (v2 : Int32) (k0 : Int32) (σ : St) : Option (Int32 × St) :=
  nm (v2 + 1) fun x2_1 =>
  nm (sA σ 0 (upd (σ 0) 2 ((σ 0 2) + (1 : Int32)))) fun σ_2 =>
  k_4 k0 x2_1 σ_2
def fMo_number_97 (N : Nat) (k0 : Int32) (σ : St) : Option (Int32 × St) :=
  some (k0, σ)
def fMo_number_80 (N : Nat) (v1 : Int32) (v2 : Int32) (σ : St) : Option (Int32 × St) :=
  cl1 (fMo_in N (v2.toInt64) (1 : Int64) (3 : Int64)) fun r_3 =>
  if r_3 = 0 then
    fMo_number_97 N (-1 : Int32) σ
  else
    fMo_number_97 N v1 σ
def fMo_number_4 (N : Nat) : Nat → Int32 → Int32 → St → Option (Int32 × St)
  | 0, _, _, _ => none
  | n_4 + 1, v1, v2, σ =>
    if (σ 0 0) ≤ (σ 0 2) then
      fMo_number_80 N v1 v2 σ
    else
      gI (σ 0 2) 400 <|
      cl1 (fMo_in N ((σ 2 (σ 0 2).toNatClampNeg).toInt64) (48 : Int64) (57 : Int64)) fun r_8 =>
      if r_8 = 0 then
        fMo_number_80 N v1 v2 σ
      else
        if (3 : Int32) ≤ v2 then
          fMo_number_63 (fMo_number_4 N n_4) N v2 v1 σ
        else
          gI (σ 0 2) 400 <|
          fMo_number_63 (fMo_number_4 N n_4) N v2 ((((10 : Int32) * v1) + (σ 2 (σ 0 2).toNatClampNeg)) - (48 : Int32)) σ
def fMo_number (N : Nat) (σ : St) : Option (Int32 × St) :=
  fMo_number_4 N N (0 : Int32) (0 : Int32) σ
def fMo_parts_50 (N : Nat) (k0 : Int32) : Option (Int32) :=
  some k0
def fMo_parts_45 (N : Nat) : Option (Int32) :=
  fMo_parts_50 N (1 : Int32)
def fMo_parts (N : Nat) (p0 : Int32) : Option (Int32) :=
  if p0 = (114 : Int32) then
    fMo_parts_50 N (7 : Int32)
  else
    if p0 = (99 : Int32) then
      fMo_parts_50 N (2 : Int32)
    else
      if p0 = (115 : Int32) then
        fMo_parts_45 N
      else
        if p0 = (108 : Int32) then
          fMo_parts_45 N
        else
          if p0 = (119 : Int32) then
            fMo_parts_45 N
          else
            if p0 = (118 : Int32) then
              fMo_parts_45 N
            else
              fMo_parts_50 N (0 : Int32)
def fMo_isIn (N : Nat) (p0 : Int32) (p1 : Int32) (p2 : Int32) (σ : St) : Option (Int32) :=
  gI p0 7 <|
  cl1 (fMo_in N ((σ 30 p0.toNatClampNeg).toInt64) (p1.toInt64) (p2.toInt64)) fun r_2 =>
  gB r_2 <|
  some r_2
def fMo_isGood_27 (N : Nat) (σ : St) : Option (Int32 × St) :=
  some ((0 : Int32), σ)
def fMo_isGood_159 (N : Nat) (σ : St) : Option (Int32 × St) :=
  some ((0 : Int32), σ)
def fMo_isGood_350 (N : Nat) (σ : St) : Option (Int32 × St) :=
  some ((1 : Int32), σ)
def fMo_isGood_163 (N : Nat) : Nat → Int32 → St → Option (Int32 × St)
  | 0, _, _ => none
  | n_163 + 1, v2, σ =>
    if (7 : Int32) ≤ v2 then
      gI (1 : Int32) 2 <|
      gI (1 : Int32) 2 <|
      nm (sA σ 5 (upd (σ 5) (1 : Int32).toNatClampNeg ((σ 5 (1 : Int32).toNatClampNeg) + (1 : Int32)))) fun σ_4 =>
      fMo_isGood_350 N σ_4
    else
      gI (1 : Int32) 2 <|
      gI v2 7 <|
      gI (((56 : Int32) + ((7 : Int32) * (σ 5 (1 : Int32).toNatClampNeg))) + v2) 112 <|
      nm (sA σ 7 (upd (σ 7) (((56 : Int32) + ((7 : Int32) * (σ 5 (1 : Int32).toNatClampNeg))) + v2).toNatClampNeg (σ 30 v2.toNatClampNeg))) fun σ_8 =>
      nm (v2 + 1) fun x2_9 =>
      fMo_isGood_163 N n_163 x2_9 σ_8
def fMo_isGood_271 (N : Nat) (k0 : Int32) (σ : St) : Option (Int32 × St) :=
  gB k0 <|
  some (k0, σ)
def fMo_isGood_270 (N : Nat) (σ : St) : Option (Int32 × St) :=
  fMo_isGood_271 N (0 : Int32) σ
def fMo_isGood (N : Nat) (p0 : Int32) (σ : St) : Option (Int32 × St) :=
  if p0 = (115 : Int32) then
    cl1 (fMo_isIn N (0 : Int32) (0 : Int32) (3 : Int32) σ) fun r_69 =>
    if r_69 = 0 then
      fMo_isGood_27 N σ
    else
      gI (1 : Int32) 2 <|
      if (σ 4 (1 : Int32).toNatClampNeg) = (10 : Int32) then
        fMo_isGood_27 N σ
      else
        gI (1 : Int32) 2 <|
        gI (0 : Int32) 7 <|
        gI ((10 : Int32) + (σ 4 (1 : Int32).toNatClampNeg)) 20 <|
        nm (sA σ 6 (upd (σ 6) ((10 : Int32) + (σ 4 (1 : Int32).toNatClampNeg)).toNatClampNeg (σ 30 (0 : Int32).toNatClampNeg))) fun σ_77 =>
        gI (1 : Int32) 2 <|
        gI (1 : Int32) 2 <|
        nm (sA σ_77 4 (upd (σ_77 4) (1 : Int32).toNatClampNeg ((σ_77 4 (1 : Int32).toNatClampNeg) + (1 : Int32)))) fun σ_80 =>
        fMo_isGood_350 N σ_80
  else
    if p0 = (114 : Int32) then
      cl1 (fMo_isIn N (0 : Int32) (0 : Int32) (199 : Int32) σ) fun r_46 =>
      if r_46 = 0 then
        fMo_isGood_159 N σ
      else
        cl1 (fMo_isIn N (1 : Int32) (1 : Int32) (199 : Int32) σ) fun r_49 =>
        if r_49 = 0 then
          fMo_isGood_159 N σ
        else
          cl1 (fMo_isIn N (2 : Int32) (1 : Int32) (199 : Int32) σ) fun r_52 =>
          if r_52 = 0 then
            fMo_isGood_159 N σ
          else
            cl1 (fMo_isIn N (3 : Int32) (1 : Int32) (99 : Int32) σ) fun r_55 =>
            if r_55 = 0 then
              fMo_isGood_159 N σ
            else
              cl1 (fMo_isIn N (4 : Int32) (0 : Int32) (3 : Int32) σ) fun r_58 =>
              if r_58 = 0 then
                fMo_isGood_159 N σ
              else
                cl1 (fMo_isIn N (5 : Int32) (0 : Int32) (9 : Int32) σ) fun r_61 =>
                if r_61 = 0 then
                  fMo_isGood_159 N σ
                else
                  cl1 (fMo_isIn N (6 : Int32) (0 : Int32) (9 : Int32) σ) fun r_64 =>
                  if r_64 = 0 then
                    fMo_isGood_159 N σ
                  else
                    gI (1 : Int32) 2 <|
                    if (σ 5 (1 : Int32).toNatClampNeg) = (8 : Int32) then
                      fMo_isGood_159 N σ
                    else
                      fMo_isGood_163 N N (0 : Int32) σ
    else
      if p0 = (99 : Int32) then
        gI (0 : Int32) 7 <|
        gI (5 : Int32) 10 <|
        nm (sA σ 8 (upd (σ 8) (5 : Int32).toNatClampNeg (σ 30 (0 : Int32).toNatClampNeg))) fun σ_36 =>
        gI (1 : Int32) 7 <|
        gI (6 : Int32) 10 <|
        nm (sA σ_36 8 (upd (σ_36 8) (6 : Int32).toNatClampNeg (σ_36 30 (1 : Int32).toNatClampNeg))) fun σ_39 =>
        cl1 (fMo_isIn N (0 : Int32) (1 : Int32) (99 : Int32) σ_39) fun r_40 =>
        if r_40 = 0 then
          fMo_isGood_270 N σ_39
        else
          cl1 (fMo_isIn N (1 : Int32) (1 : Int32) (99 : Int32) σ_39) fun r_43 =>
          if r_43 = 0 then
            fMo_isGood_270 N σ_39
          else
            fMo_isGood_271 N (1 : Int32) σ_39
      else
        if p0 = (108 : Int32) then
          gI (0 : Int32) 7 <|
          gI (7 : Int32) 10 <|
          nm (sA σ 8 (upd (σ 8) (7 : Int32).toNatClampNeg (σ 30 (0 : Int32).toNatClampNeg))) fun σ_30 =>
          cl1 (fMo_isIn N (0 : Int32) (1 : Int32) (99 : Int32) σ_30) fun r_31 =>
          gB r_31 <|
          some (r_31, σ_30)
        else
          if p0 = (119 : Int32) then
            gI (0 : Int32) 7 <|
            gI (8 : Int32) 10 <|
            nm (sA σ 8 (upd (σ 8) (8 : Int32).toNatClampNeg (σ 30 (0 : Int32).toNatClampNeg))) fun σ_24 =>
            cl1 (fMo_isIn N (0 : Int32) (0 : Int32) (99 : Int32) σ_24) fun r_25 =>
            gB r_25 <|
            some (r_25, σ_24)
          else
            gI (0 : Int32) 7 <|
            gI (9 : Int32) 10 <|
            nm (sA σ 8 (upd (σ 8) (9 : Int32).toNatClampNeg (σ 30 (0 : Int32).toNatClampNeg))) fun σ_18 =>
            cl1 (fMo_isIn N (0 : Int32) (0 : Int32) (30 : Int32) σ_18) fun r_19 =>
            gB r_19 <|
            some (r_19, σ_18)
def fMo_isItem_137 (k_38 : Int32 → Int32 → Int32 → Int32 → St → Option (Int32 × St)) (N : Nat) (v1 : Int32) (v2 : Int32) (v4 : Int32) (k0 : Int32) (σ : St) : Option (Int32 × St) :=
  nm (v4 + 1) fun x4_1 =>
  k_38 v1 v2 k0 x4_1 σ
def fMo_isItem_121 (k_38 : Int32 → Int32 → Int32 → Int32 → St → Option (Int32 × St)) (N : Nat) (v1 : Int32) (v2 : Int32) (v4 : Int32) (k1 : Int32) (k2 : Int32) (σ : St) : Option (Int32 × St) :=
  gI k1 7 <|
  nm (sA σ 30 (upd (σ 30) k1.toNatClampNeg k2)) fun σ_3 =>
  gI v4 7 <|
  if (σ_3 30 v4.toNatClampNeg) < 0 then
    fMo_isItem_137 k_38 N v1 v2 v4 (0 : Int32) σ_3
  else
    fMo_isItem_137 k_38 N v1 v2 v4 (1 : Int32) σ_3
def fMo_isItem_99 (k_38 : Int32 → Int32 → Int32 → Int32 → St → Option (Int32 × St)) (N : Nat) (v1 : Int32) (v2 : Int32) (v3 : Int32) (v4 : Int32) (k1 : Int32) (k2 : Int32) (σ : St) : Option (Int32 × St) :=
  nm (sA σ 0 (upd (σ 0) 2 (k1 + k2))) fun σ_6 =>
  if v3 = 0 then
    fMo_isItem_121 k_38 N v1 v2 v4 v4 (-1 : Int32) σ_6
  else
    cl2 (fMo_number N σ_6) fun r_8 σ_9 =>
    fMo_isItem_121 k_38 N v1 v2 v4 v4 r_8 σ_9
def fMo_isItem_83 (k_38 : Int32 → Int32 → Int32 → Int32 → St → Option (Int32 × St)) (N : Nat) (v1 : Int32) (v2 : Int32) (v4 : Int32) (k0 : Int32) (σ : St) : Option (Int32 × St) :=
  if v4 = 0 then
    fMo_isItem_99 k_38 N v1 v2 k0 v4 (σ 0 2) (0 : Int32) σ
  else
    fMo_isItem_99 k_38 N v1 v2 k0 v4 (σ 0 2) (1 : Int32) σ
def fMo_isItem_78 (k_38 : Int32 → Int32 → Int32 → Int32 → St → Option (Int32 × St)) (N : Nat) (v1 : Int32) (v2 : Int32) (v4 : Int32) (σ : St) : Option (Int32 × St) :=
  fMo_isItem_83 k_38 N v1 v2 v4 (1 : Int32) σ
def fMo_isItem_82 (k_38 : Int32 → Int32 → Int32 → Int32 → St → Option (Int32 × St)) (N : Nat) (v1 : Int32) (v2 : Int32) (v4 : Int32) (σ : St) : Option (Int32 × St) :=
  fMo_isItem_83 k_38 N v1 v2 v4 (0 : Int32) σ
def fMo_isItem_206 (N : Nat) (k0 : Int32) (σ : St) : Option (Int32 × St) :=
  gB k0 <|
  some (k0, σ)
def fMo_isItem_205 (N : Nat) (σ : St) : Option (Int32 × St) :=
  fMo_isItem_206 N (0 : Int32) σ
def fMo_isItem_178 (N : Nat) (v1 : Int32) (k0 : Int32) (σ : St) : Option (Int32 × St) :=
  nm (sA σ 0 (upd (σ 0) 2 ((σ 0 2) + (1 : Int32)))) fun σ_13 =>
  if k0 = 0 then
    fMo_isItem_205 N σ_13
  else
    cl2 (fMo_isGood N v1 σ_13) fun r_15 σ_16 =>
    if r_15 = 0 then
      fMo_isItem_205 N σ_16
    else
      fMo_isItem_206 N (1 : Int32) σ_16
def fMo_isItem_177 (N : Nat) (v1 : Int32) (σ : St) : Option (Int32 × St) :=
  fMo_isItem_178 N v1 (0 : Int32) σ
def fMo_isItem_144 (N : Nat) (v1 : Int32) (v3 : Int32) (σ : St) : Option (Int32 × St) :=
  if v3 = 0 then
    fMo_isItem_177 N v1 σ
  else
    if (σ 0 0) ≤ (σ 0 2) then
      fMo_isItem_177 N v1 σ
    else
      gI (σ 0 2) 400 <|
      if (σ 2 (σ 0 2).toNatClampNeg) = (59 : Int32) then
        fMo_isItem_178 N v1 (1 : Int32) σ
      else
        fMo_isItem_177 N v1 σ
def fMo_isItem_38 (N : Nat) : Nat → Int32 → Int32 → Int32 → Int32 → St → Option (Int32 × St)
  | 0, _, _, _, _, _ => none
  | n_38 + 1, v1, v2, v3, v4, σ =>
    if v2 ≤ v4 then
      fMo_isItem_144 N v1 v3 σ
    else
      if v3 = 0 then
        fMo_isItem_144 N v1 v3 σ
      else
        if v4 = 0 then
          fMo_isItem_78 (fMo_isItem_38 N n_38) N v1 v2 v4 σ
        else
          if (σ 0 0) ≤ (σ 0 2) then
            fMo_isItem_82 (fMo_isItem_38 N n_38) N v1 v2 v4 σ
          else
            gI (σ 0 2) 400 <|
            if (σ 2 (σ 0 2).toNatClampNeg) = (44 : Int32) then
              fMo_isItem_78 (fMo_isItem_38 N n_38) N v1 v2 v4 σ
            else
              fMo_isItem_82 (fMo_isItem_38 N n_38) N v1 v2 v4 σ
def fMo_isItem_34 (N : Nat) (v1 : Int32) (v2 : Int32) (k0 : Int32) (σ : St) : Option (Int32 × St) :=
  fMo_isItem_38 N N v1 v2 k0 (0 : Int32) σ
def fMo_isItem (N : Nat) (σ : St) : Option (Int32 × St) :=
  gI (σ 0 2) 400 <|
  nm ((σ 2 (σ 0 2).toNatClampNeg)) fun x1_30 =>
  nm (sA σ 0 (upd (σ 0) 2 ((σ 0 2) + (1 : Int32)))) fun σ_31 =>
  cl1 (fMo_parts N x1_30) fun r_32 =>
  if r_32 ≤ 0 then
    fMo_isItem_34 N x1_30 r_32 (0 : Int32) σ_31
  else
    fMo_isItem_34 N x1_30 r_32 (1 : Int32) σ_31
def fMo_begins (N : Nat) (σ : St) : Option (St) :=
  gI (1 : Int32) 2 <|
  nm (sA σ 4 (upd (σ 4) (1 : Int32).toNatClampNeg (0 : Int32))) fun σ_2 =>
  gI (1 : Int32) 2 <|
  nm (sA σ_2 5 (upd (σ_2 5) (1 : Int32).toNatClampNeg (0 : Int32))) fun σ_4 =>
  gI (5 : Int32) 10 <|
  nm (sA σ_4 8 (upd (σ_4 8) (5 : Int32).toNatClampNeg (30 : Int32))) fun σ_6 =>
  gI (6 : Int32) 10 <|
  nm (sA σ_6 8 (upd (σ_6 8) (6 : Int32).toNatClampNeg (20 : Int32))) fun σ_8 =>
  gI (7 : Int32) 10 <|
  nm (sA σ_8 8 (upd (σ_8 8) (7 : Int32).toNatClampNeg (15 : Int32))) fun σ_10 =>
  gI (8 : Int32) 10 <|
  nm (sA σ_10 8 (upd (σ_10 8) (8 : Int32).toNatClampNeg (20 : Int32))) fun σ_12 =>
  gI (9 : Int32) 10 <|
  nm (sA σ_12 8 (upd (σ_12 8) (9 : Int32).toNatClampNeg (0 : Int32))) fun σ_14 =>
  some σ_14
def fMo_takes_87 (k_26 : Int32 → St → Option (St)) (N : Nat) (v1 : Int32) (σ : St) : Option (St) :=
  nm (v1 + 1) fun x1_1 =>
  k_26 x1_1 σ
def fMo_takes_68 (k_26 : Int32 → St → Option (St)) (N : Nat) (v1 : Int32) (σ : St) : Option (St) :=
  if (5 : Int32) ≤ v1 then
    fMo_takes_87 k_26 N v1 σ
  else
    gI ((5 : Int32) + v1) 10 <|
    gI v1 10 <|
    nm (sA σ 8 (upd (σ 8) v1.toNatClampNeg (σ 8 ((5 : Int32) + v1).toNatClampNeg))) fun σ_5 =>
    fMo_takes_87 k_26 N v1 σ_5
def fMo_takes_26 (N : Nat) : Nat → Int32 → St → Option (St)
  | 0, _, _ => none
  | n_26 + 1, v1, σ =>
    if (56 : Int32) ≤ v1 then
      gI (0 : Int32) 2 <|
      nm (sA σ 0 (upd (σ 0) 8 (((1 : Int32) <<< ((σ 5 (0 : Int32).toNatClampNeg) &&& 31)) - (1 : Int32)))) fun σ_8 =>
      nm (sA σ_8 0 (upd (σ_8 0) 9 (0 : Int32))) fun σ_9 =>
      some σ_9
    else
      gI ((56 : Int32) + v1) 112 <|
      gI v1 112 <|
      nm (sA σ 7 (upd (σ 7) v1.toNatClampNeg (σ 7 ((56 : Int32) + v1).toNatClampNeg))) fun σ_12 =>
      if (10 : Int32) ≤ v1 then
        fMo_takes_68 (fMo_takes_26 N n_26) N v1 σ_12
      else
        gI ((10 : Int32) + v1) 20 <|
        gI v1 20 <|
        nm (sA σ_12 6 (upd (σ_12 6) v1.toNatClampNeg (σ_12 6 ((10 : Int32) + v1).toNatClampNeg))) fun σ_16 =>
        fMo_takes_68 (fMo_takes_26 N n_26) N v1 σ_16
def fMo_takes (N : Nat) (σ : St) : Option (St) :=
  gI (1 : Int32) 2 <|
  gI (0 : Int32) 2 <|
  nm (sA σ 4 (upd (σ 4) (0 : Int32).toNatClampNeg (σ 4 (1 : Int32).toNatClampNeg))) fun σ_19 =>
  gI (1 : Int32) 2 <|
  gI (0 : Int32) 2 <|
  nm (sA σ_19 5 (upd (σ_19 5) (0 : Int32).toNatClampNeg (σ_19 5 (1 : Int32).toNatClampNeg))) fun σ_22 =>
  fMo_takes_26 N N (0 : Int32) σ_22
def fMo_fault_9 (N : Nat) : Nat → St → Option (Int32 × St)
  | 0, _ => none
  | n_9 + 1, σ =>
    if (σ 0 0) ≤ (σ 0 2) then
      some ((-4 : Int32), σ)
    else
      nm ((σ 0 2)) fun x1_2 =>
      cl2 (fMo_isItem N σ) fun r_3 σ_4 =>
      if r_3 = 0 then
        some (x1_2, σ_4)
      else
        fMo_fault_9 N n_9 σ_4
def fMo_fault (N : Nat) (σ : St) : Option (Int32 × St) :=
  nm (sA σ 0 (upd (σ 0) 2 (0 : Int32))) fun σ_7 =>
  cl1 (fMo_begins N σ_7) fun σ_8 =>
  fMo_fault_9 N N σ_8
def fMo_lay_27 (N : Nat) (σ : St) : Option (Int32 × St) :=
  some ((-2 : Int32), σ)
def fMo_lay (N : Nat) (σ : St) : Option (Int32 × St) :=
  cl2 (fMo_fault N σ) fun r_1 σ_2 =>
  if r_1 = (-4 : Int32) then
    gI (1 : Int32) 2 <|
    if (σ_2 4 (1 : Int32).toNatClampNeg) = 0 then
      fMo_lay_27 N σ_2
    else
      gI (1 : Int32) 2 <|
      if (σ_2 5 (1 : Int32).toNatClampNeg) = 0 then
        fMo_lay_27 N σ_2
      else
        cl1 (fMo_takes N σ_2) fun σ_9 =>
        gI (0 : Int32) 2 <|
        some ((σ_9 5 (0 : Int32).toNatClampNeg), σ_9)
  else
    fMo_lay_27 N σ_2
def fMo_isReader (N : Nat) (p0 : Int32) (σ : St) : Option (Int32) :=
  gI (0 : Int32) 2 <|
  cl1 (fMo_in N (p0.toInt64) (0 : Int64) (((σ 5 (0 : Int32).toNatClampNeg) - (1 : Int32)).toInt64)) fun r_2 =>
  gB r_2 <|
  some r_2
def fMo_isRule (N : Nat) (p0 : Int32) : Option (Int32) :=
  cl1 (fMo_in N (p0.toInt64) (0 : Int64) (4 : Int64)) fun r_1 =>
  gB r_1 <|
  some r_1
def fMo_isMinute (N : Nat) (p0 : Int32) : Option (Int32) :=
  cl1 (fMo_in N (p0.toInt64) (0 : Int64) (399 : Int64)) fun r_1 =>
  gB r_1 <|
  some r_1
def fMo_of (N : Nat) (p0 : Int32) (p1 : Int32) (σ : St) : Option (Int32) :=
  gI (((7 : Int32) * p0) + p1) 112 <|
  some (σ 7 (((7 : Int32) * p0) + p1).toNatClampNeg)
def fMo_reader_47 (N : Nat) (σ : St) (k0 : Int32) : Option (Int32) :=
  some k0
def fMo_reader_20 (N : Nat) (σ : St) : Option (Int32) :=
  fMo_reader_47 N σ (-1 : Int32)
def fMo_reader (N : Nat) (p0 : Int32) (p1 : Int32) (σ : St) : Option (Int32) :=
  cl1 (fMo_isReader N p0 σ) fun r_1 =>
  if r_1 = 0 then
    fMo_reader_20 N σ
  else
    cl1 (fMo_in N (p1.toInt64) (0 : Int64) (7 : Int64)) fun r_4 =>
    if r_4 = 0 then
      fMo_reader_20 N σ
    else
      if (7 : Int32) ≤ p1 then
        fMo_reader_47 N σ (((σ 0 8) >>> (p0 &&& 31)) &&& (1 : Int32))
      else
        cl1 (fMo_of N p0 p1 σ) fun r_8 =>
        fMo_reader_47 N σ r_8
def fMo_kind_28 (N : Nat) (σ : St) (k0 : Int32) : Option (Int32) :=
  some k0
def fMo_kind (N : Nat) (p0 : Int32) (σ : St) : Option (Int32) :=
  gI (0 : Int32) 2 <|
  cl1 (fMo_in N (p0.toInt64) (0 : Int64) (((σ 4 (0 : Int32).toNatClampNeg) - (1 : Int32)).toInt64)) fun r_2 =>
  if r_2 = 0 then
    fMo_kind_28 N σ (-1 : Int32)
  else
    gI p0 20 <|
    fMo_kind_28 N σ (σ 6 p0.toNatClampNeg)
def fMo_hold_45 (N : Nat) (v3 : Int32) (k1 : Int32) (σ : St) : Option (Int32 × St) :=
  nm (sA σ 0 (upd (σ 0) 8 k1)) fun σ_1 =>
  some (v3, σ_1)
def fMo_hold (N : Nat) (p0 : Int32) (p1 : Int32) (σ : St) : Option (Int32 × St) :=
  cl1 (fMo_isReader N p0 σ) fun r_2 =>
  if r_2 = 0 then
    some ((-1 : Int32), σ)
  else
    nm ((((σ 0 8) >>> (p0 &&& 31)) &&& (1 : Int32))) fun x3_5 =>
    if p1 = 0 then
      fMo_hold_45 N x3_5 ((σ 0 8) &&& (((1 : Int32) <<< (p0 &&& 31)) ^^^ (-1 : Int32))) σ
    else
      fMo_hold_45 N x3_5 ((σ 0 8) ||| ((1 : Int32) <<< (p0 &&& 31))) σ
def fMo_comesBack_74 (N : Nat) (k1 : Int32) (k2 : Int32) (σ : St) : Option (St) :=
  nm (sA σ 0 (upd (σ 0) 23 (k1 ||| k2))) fun σ_1 =>
  some σ_1
def fMo_comesBack (N : Nat) (p0 : Int32) (p1 : Int32) (σ : St) : Option (St) :=
  gI p0 8 <|
  nm ((σ 13 p0.toNatClampNeg)) fun x3_3 =>
  gI x3_3 10 <|
  if (σ 20 x3_3.toNatClampNeg) = p0 then
    gI x3_3 10 <|
    nm (sA σ 20 (upd (σ 20) x3_3.toNatClampNeg (-1 : Int32))) fun σ_13 =>
    gI x3_3 10 <|
    nm (sA σ_13 19 (upd (σ_13 19) x3_3.toNatClampNeg p0)) fun σ_15 =>
    gI p0 8 <|
    nm (sA σ_15 12 (upd (σ_15 12) p0.toNatClampNeg (2 : Int32))) fun σ_17 =>
    some σ_17
  else
    gI p0 8 <|
    nm (sA σ 12 (upd (σ 12) p0.toNatClampNeg (1 : Int32))) fun σ_7 =>
    gI p0 8 <|
    nm (sA σ_7 15 (upd (σ_7 15) p0.toNatClampNeg p1)) fun σ_9 =>
    gI p0 8 <|
    if (σ_9 17 p0.toNatClampNeg) = 0 then
      fMo_comesBack_74 N (σ_9 0 23) (0 : Int32) σ_9
    else
      fMo_comesBack_74 N (σ_9 0 23) ((1 : Int32) <<< (p0 &&& 31)) σ_9
def fMo_frees_89 (k_3 : Int32 → Int32 → Int32 → Int32 → Int32 → St → Option (St)) (N : Nat) (v1 : Int32) (v2 : Int32) (v3 : Int32) (v4 : Int32) (v5 : Int32) (k1 : Int32) (k2 : Int32) (σ : St) : Option (St) :=
  gI k1 10 <|
  nm (sA σ 20 (upd (σ 20) k1.toNatClampNeg k2)) fun σ_2 =>
  nm (v5 + 1) fun x5_3 =>
  k_3 v1 v2 v3 v4 x5_3 σ_2
def fMo_frees_87 (k_3 : Int32 → Int32 → Int32 → Int32 → Int32 → St → Option (St)) (N : Nat) (v1 : Int32) (v2 : Int32) (v3 : Int32) (v4 : Int32) (v5 : Int32) (v6 : Int32) (k1 : Int32) (σ : St) : Option (St) :=
  fMo_frees_89 k_3 N v1 v2 v3 v4 v5 k1 v6 σ
def fMo_frees_56 (k_3 : Int32 → Int32 → Int32 → Int32 → Int32 → St → Option (St)) (N : Nat) (v1 : Int32) (v2 : Int32) (v3 : Int32) (v4 : Int32) (v5 : Int32) (v6 : Int32) (k0 : Int32) (σ : St) : Option (St) :=
  if v6 < 0 then
    fMo_frees_87 k_3 N v1 v2 v3 v4 v5 v6 v5 σ
  else
    gI v6 8 <|
    if (v2 - (σ 16 v6.toNatClampNeg)) < k0 then
      fMo_frees_87 k_3 N v1 v2 v3 v4 v5 v6 v5 σ
    else
      fMo_frees_89 k_3 N v1 v2 v3 v4 v5 v5 (-1 : Int32) σ
def fMo_frees_39 (k_3 : Int32 → Int32 → Int32 → Int32 → Int32 → St → Option (St)) (N : Nat) (v1 : Int32) (v2 : Int32) (v3 : Int32) (v4 : Int32) (v5 : Int32) (v6 : Int32) (σ : St) : Option (St) :=
  if v1 = (3 : Int32) then
    gI (2 : Int32) 10 <|
    fMo_frees_56 k_3 N v1 v2 v3 v4 v5 v6 (σ 8 (2 : Int32).toNatClampNeg) σ
  else
    fMo_frees_56 k_3 N v1 v2 v3 v4 v5 v6 (1000 : Int32) σ
def fMo_frees_3 (N : Nat) : Nat → Int32 → Int32 → Int32 → Int32 → Int32 → St → Option (St)
  | 0, _, _, _, _, _, _ => none
  | n_3 + 1, v1, v2, v3, v4, v5, σ =>
    gI (0 : Int32) 2 <|
    if (σ 4 (0 : Int32).toNatClampNeg) ≤ v5 then
      some σ
    else
      gI v5 10 <|
      nm ((σ 20 v5.toNatClampNeg)) fun x6_12 =>
      if v1 = (2 : Int32) then
        gZ (v4) <|
        if (v2 - v2 / v4 * v4) = 0 then
          fMo_frees_56 (fMo_frees_3 N n_3) N v1 v2 v3 v4 v5 x6_12 v3 σ
        else
          fMo_frees_39 (fMo_frees_3 N n_3) N v1 v2 v3 v4 v5 x6_12 σ
      else
        fMo_frees_39 (fMo_frees_3 N n_3) N v1 v2 v3 v4 v5 x6_12 σ
def fMo_frees (N : Nat) (p0 : Int32) (p1 : Int32) (p2 : Int32) (p3 : Int32) (σ : St) : Option (St) :=
  fMo_frees_3 N N p0 p1 p2 p3 (0 : Int32) σ
def fMo_bits (N : Nat) (p0 : Int32) : Option (Int32) :=
  some ((p0 &&& (1 : Int32)) + ((p0 >>> ((1 : Int32) &&& 31)) &&& (1 : Int32)))
def fMo_takesSeat_88 (k_6 : Int32 → Int32 → Int32 → Int32 → Int32 → Option (Int32)) (N : Nat) (σ : St) (v1 : Int32) (v2 : Int32) (v3 : Int32) (v4 : Int32) (v5 : Int32) : Option (Int32) :=
  nm (v5 + 1) fun x5_1 =>
  k_6 v1 v2 v3 v4 x5_1
def fMo_takesSeat_86 (k_6 : Int32 → Int32 → Int32 → Int32 → Int32 → Option (Int32)) (N : Nat) (σ : St) (v1 : Int32) (v2 : Int32) (v3 : Int32) (v5 : Int32) (k0 : Int32) : Option (Int32) :=
  fMo_takesSeat_88 k_6 N σ v1 v2 v3 k0 v5
def fMo_takesSeat_79 (k_6 : Int32 → Int32 → Int32 → Int32 → Int32 → Option (Int32)) (N : Nat) (σ : St) (v1 : Int32) (v2 : Int32) (v3 : Int32) (v5 : Int32) : Option (Int32) :=
  fMo_takesSeat_86 k_6 N σ v1 v2 v3 v5 v5
def fMo_takesSeat_169 (k_97 : Int32 → Int32 → Int32 → Int32 → Int32 → Option (Int32)) (N : Nat) (σ : St) (v1 : Int32) (v2 : Int32) (v3 : Int32) (v5 : Int32) (k0 : Int32) : Option (Int32) :=
  nm (v5 + 1) fun x5_2 =>
  k_97 v1 v2 v3 k0 x5_2
def fMo_takesSeat_167 (k_97 : Int32 → Int32 → Int32 → Int32 → Int32 → Option (Int32)) (N : Nat) (σ : St) (v1 : Int32) (v2 : Int32) (v3 : Int32) (v4 : Int32) (v5 : Int32) : Option (Int32) :=
  fMo_takesSeat_169 k_97 N σ v1 v2 v3 v5 v4
def fMo_takesSeat_177 (N : Nat) (σ : St) (v4 : Int32) : Option (Int32) :=
  some v4
def fMo_takesSeat_97 (N : Nat) (σ : St) : Nat → Int32 → Int32 → Int32 → Int32 → Int32 → Option (Int32)
  | 0, _, _, _, _, _ => none
  | n_97 + 1, v1, v2, v3, v4, v5 =>
    gI (0 : Int32) 2 <|
    if (σ 4 (0 : Int32).toNatClampNeg) ≤ v5 then
      fMo_takesSeat_177 N σ v4
    else
      if 0 ≤ v4 then
        fMo_takesSeat_177 N σ v4
      else
        if v1 = (4 : Int32) then
          gI v5 10 <|
          nm ((σ 20 v5.toNatClampNeg)) fun x6_8 =>
          if x6_8 < 0 then
            fMo_takesSeat_167 (fMo_takesSeat_97 N σ n_97) N σ v1 v2 v3 v4 v5
          else
            cl1 (fMo_of N x6_8 (5 : Int32) σ) fun r_10 =>
            cl1 (fMo_of N v2 (6 : Int32) σ) fun r_12 =>
            gI x6_8 8 <|
            if (r_12 + ((v3 - (σ 16 x6_8.toNatClampNeg)) / (10 : Int32))) < r_10 then
              fMo_takesSeat_167 (fMo_takesSeat_97 N σ n_97) N σ v1 v2 v3 v4 v5
            else
              fMo_takesSeat_169 (fMo_takesSeat_97 N σ n_97) N σ v1 v2 v3 v5 v5
        else
          fMo_takesSeat_177 N σ v4
def fMo_takesSeat_6 (N : Nat) (σ : St) : Nat → Int32 → Int32 → Int32 → Int32 → Int32 → Option (Int32)
  | 0, _, _, _, _, _ => none
  | n_6 + 1, v1, v2, v3, v4, v5 =>
    gI (0 : Int32) 2 <|
    if (σ 4 (0 : Int32).toNatClampNeg) ≤ v5 then
      fMo_takesSeat_97 N σ N v1 v2 v3 v4 (0 : Int32)
    else
      gI v5 10 <|
      if 0 ≤ (σ 19 v5.toNatClampNeg) then
        fMo_takesSeat_88 (fMo_takesSeat_6 N σ n_6) N σ v1 v2 v3 v4 v5
      else
        gI v5 10 <|
        if 0 ≤ (σ 20 v5.toNatClampNeg) then
          fMo_takesSeat_88 (fMo_takesSeat_6 N σ n_6) N σ v1 v2 v3 v4 v5
        else
          if v4 < 0 then
            fMo_takesSeat_79 (fMo_takesSeat_6 N σ n_6) N σ v1 v2 v3 v5
          else
            gI v5 20 <|
            cl1 (fMo_of N v2 (4 : Int32) σ) fun r_24 =>
            cl1 (fMo_bits N ((σ 6 v5.toNatClampNeg) &&& r_24)) fun r_26 =>
            gI v4 20 <|
            cl1 (fMo_of N v2 (4 : Int32) σ) fun r_29 =>
            cl1 (fMo_bits N ((σ 6 v4.toNatClampNeg) &&& r_29)) fun r_31 =>
            if r_26 ≤ r_31 then
              fMo_takesSeat_86 (fMo_takesSeat_6 N σ n_6) N σ v1 v2 v3 v5 v4
            else
              fMo_takesSeat_79 (fMo_takesSeat_6 N σ n_6) N σ v1 v2 v3 v5
def fMo_takesSeat (N : Nat) (p0 : Int32) (p1 : Int32) (p2 : Int32) (σ : St) : Option (Int32) :=
  fMo_takesSeat_6 N σ N p0 p1 p2 (-1 : Int32) (0 : Int32)
def fMo_seeks_84 (N : Nat) (σ : St) : Option (St) :=
  some σ
def fMo_seeks (N : Nat) (p0 : Int32) (p1 : Int32) (p2 : Int32) (σ : St) : Option (St) :=
  cl1 (fMo_takesSeat N p0 p1 p2 σ) fun r_1 =>
  if r_1 < 0 then
    gI p1 8 <|
    gI (3 : Int32) 10 <|
    if (p2 - (σ 15 p1.toNatClampNeg)) < (σ 8 (3 : Int32).toNatClampNeg) then
      fMo_seeks_84 N σ
    else
      gI p1 8 <|
      nm (sA σ 12 (upd (σ 12) p1.toNatClampNeg (4 : Int32))) fun σ_8 =>
      nm (sA σ_8 0 (upd (σ_8 0) 22 ((σ_8 0 22) ||| ((1 : Int32) <<< (p1 &&& 31))))) fun σ_9 =>
      fMo_seeks_84 N σ_9
  else
    gI r_1 10 <|
    nm (sA σ 20 (upd (σ 20) r_1.toNatClampNeg (-1 : Int32))) fun σ_11 =>
    gI r_1 10 <|
    nm (sA σ_11 19 (upd (σ_11 19) r_1.toNatClampNeg p1)) fun σ_13 =>
    gI p1 8 <|
    nm (sA σ_13 13 (upd (σ_13 13) p1.toNatClampNeg r_1)) fun σ_15 =>
    gI p1 8 <|
    nm (sA σ_15 12 (upd (σ_15 12) p1.toNatClampNeg (2 : Int32))) fun σ_17 =>
    fMo_seeks_84 N σ_17
def fMo_sitsOn_135 (N : Nat) (σ : St) : Option (St) :=
  some σ
def fMo_sitsOn_134 (N : Nat) (k1 : Int32) (k2 : Int32) (σ : St) : Option (St) :=
  gI k1 10 <|
  nm (sA σ 20 (upd (σ 20) k1.toNatClampNeg k2)) fun σ_2 =>
  fMo_sitsOn_135 N σ_2
def fMo_sitsOn_113 (N : Nat) (v3 : Int32) (v5 : Int32) (k1 : Int32) (k2 : Int32) (σ : St) : Option (St) :=
  gI k1 8 <|
  nm (sA σ 17 (upd (σ 17) k1.toNatClampNeg (vp_nar .boolean k2))) fun σ_4 =>
  gI v3 8 <|
  if (σ_4 17 v3.toNatClampNeg) = 0 then
    fMo_sitsOn_134 N v5 (-1 : Int32) σ_4
  else
    fMo_sitsOn_134 N v5 v3 σ_4
def fMo_sitsOn_112 (N : Nat) (v3 : Int32) (v5 : Int32) (k1 : Int32) (σ : St) : Option (St) :=
  fMo_sitsOn_113 N v3 v5 k1 (0 : Int32) σ
def fMo_sitsOn (N : Nat) (p0 : Int32) (p1 : Int32) (p2 : Int32) (p3 : Int32) (σ : St) : Option (St) :=
  gI p2 8 <|
  nm ((σ 13 p2.toNatClampNeg)) fun x5_8 =>
  gI p2 8 <|
  gI p2 8 <|
  nm (sA σ 14 (upd (σ 14) p2.toNatClampNeg ((σ 14 p2.toNatClampNeg) + (1 : Int32)))) fun σ_11 =>
  gI p2 8 <|
  cl1 (fMo_of N p2 (1 : Int32) σ_11) fun r_13 =>
  if (σ_11 14 p2.toNatClampNeg) = r_13 then
    gI p2 8 <|
    nm (sA σ_11 12 (upd (σ_11 12) p2.toNatClampNeg (4 : Int32))) fun σ_29 =>
    gI x5_8 10 <|
    nm (sA σ_29 19 (upd (σ_29 19) x5_8.toNatClampNeg (-1 : Int32))) fun σ_31 =>
    fMo_sitsOn_135 N σ_31
  else
    gI p2 8 <|
    cl1 (fMo_of N p2 (2 : Int32) σ_11) fun r_17 =>
    if (σ_11 14 p2.toNatClampNeg) = r_17 then
      gI p2 8 <|
      nm (sA σ_11 12 (upd (σ_11 12) p2.toNatClampNeg (3 : Int32))) fun σ_21 =>
      gI p2 8 <|
      nm (sA σ_21 16 (upd (σ_21 16) p2.toNatClampNeg p3)) fun σ_23 =>
      gI x5_8 10 <|
      nm (sA σ_23 19 (upd (σ_23 19) x5_8.toNatClampNeg (-1 : Int32))) fun σ_25 =>
      if p0 = (1 : Int32) then
        fMo_sitsOn_112 N p2 x5_8 p2 σ_25
      else
        if ((p1 >>> (p2 &&& 31)) &&& (1 : Int32)) = (1 : Int32) then
          fMo_sitsOn_113 N p2 x5_8 p2 (1 : Int32) σ_25
        else
          fMo_sitsOn_112 N p2 x5_8 p2 σ_25
    else
      fMo_sitsOn_135 N σ_11
def fMo_minute_51 (k_3 : Int32 → Int32 → Int32 → Int32 → Int32 → Int32 → St → Option (St)) (N : Nat) (v1 : Int32) (v2 : Int32) (v3 : Int32) (v4 : Int32) (v5 : Int32) (v6 : Int32) (σ : St) : Option (St) :=
  nm (v6 + 1) fun x6_1 =>
  k_3 v1 v2 v3 v4 v5 x6_1 σ
def fMo_minute_126 (k_70 : Int32 → Int32 → Int32 → Int32 → St → Option (St)) (N : Nat) (v1 : Int32) (v2 : Int32) (v3 : Int32) (v6 : Int32) (σ : St) : Option (St) :=
  nm (v6 + 1) fun x6_2 =>
  k_70 v1 v2 v3 x6_2 σ
def fMo_minute_165 (k_135 : Int32 → Int32 → Int32 → Int32 → St → Option (St)) (N : Nat) (v1 : Int32) (v2 : Int32) (v3 : Int32) (v6 : Int32) (σ : St) : Option (St) :=
  nm (v6 + 1) fun x6_3 =>
  k_135 v1 v2 v3 x6_3 σ
def fMo_minute_205 (k_174 : Int32 → Int32 → Int32 → Int32 → St → Option (St)) (N : Nat) (v1 : Int32) (v2 : Int32) (v3 : Int32) (v6 : Int32) (σ : St) : Option (St) :=
  nm (v6 + 1) fun x6_4 =>
  k_174 v1 v2 v3 x6_4 σ
def fMo_minute_268 (k_217 : Int32 → Int32 → Int32 → St → Option (St)) (N : Nat) (v3 : Int32) (v6 : Int32) (v7 : Int32) (k1 : Int32) (k2 : Int32) (σ : St) : Option (St) :=
  nm (sA σ 0 (upd (σ 0) 21 (k1 + k2))) fun σ_5 =>
  nm (v7 + 1) fun x7_6 =>
  k_217 v3 v6 x7_6 σ_5
def fMo_minute_245 (k_217 : Int32 → Int32 → Int32 → St → Option (St)) (N : Nat) (v3 : Int32) (v7 : Int32) (k0 : Int32) (k1 : Int32) (σ : St) : Option (St) :=
  nm ((k0 + k1)) fun x6_7 =>
  gI v7 10 <|
  if (σ 20 v7.toNatClampNeg) < 0 then
    fMo_minute_268 k_217 N v3 x6_7 v7 (σ 0 21) (0 : Int32) σ
  else
    fMo_minute_268 k_217 N v3 x6_7 v7 (σ 0 21) (1 : Int32) σ
def fMo_minute_217 (N : Nat) : Nat → Int32 → Int32 → Int32 → St → Option (St)
  | 0, _, _, _, _ => none
  | n_217 + 1, v3, v6, v7, σ =>
    gI (0 : Int32) 2 <|
    if (σ 4 (0 : Int32).toNatClampNeg) ≤ v7 then
      gI v3 400 <|
      nm (sA σ 25 (upd (σ 25) v3.toNatClampNeg v6)) fun σ_13 =>
      nm (sA σ_13 0 (upd (σ_13 0) 20 ((σ_13 0 20) + v6))) fun σ_14 =>
      some σ_14
    else
      gI v7 10 <|
      if (σ 19 v7.toNatClampNeg) < 0 then
        fMo_minute_245 (fMo_minute_217 N n_217) N v3 v7 v6 (0 : Int32) σ
      else
        fMo_minute_245 (fMo_minute_217 N n_217) N v3 v7 v6 (1 : Int32) σ
def fMo_minute_174 (N : Nat) : Nat → Int32 → Int32 → Int32 → Int32 → St → Option (St)
  | 0, _, _, _, _, _ => none
  | n_174 + 1, v1, v2, v3, v6, σ =>
    gI (0 : Int32) 2 <|
    if (σ 5 (0 : Int32).toNatClampNeg) ≤ v6 then
      fMo_minute_217 N N v3 (0 : Int32) (0 : Int32) σ
    else
      gI v6 8 <|
      if (σ 12 v6.toNatClampNeg) = (2 : Int32) then
        cl1 (fMo_sitsOn N v1 v2 v6 v3 σ) fun σ_21 =>
        fMo_minute_205 (fMo_minute_174 N n_174) N v1 v2 v3 v6 σ_21
      else
        fMo_minute_205 (fMo_minute_174 N n_174) N v1 v2 v3 v6 σ
def fMo_minute_135 (N : Nat) : Nat → Int32 → Int32 → Int32 → Int32 → St → Option (St)
  | 0, _, _, _, _, _ => none
  | n_135 + 1, v1, v2, v3, v6, σ =>
    gI (0 : Int32) 2 <|
    if (σ 5 (0 : Int32).toNatClampNeg) ≤ v6 then
      fMo_minute_174 N N v1 v2 v3 (0 : Int32) σ
    else
      gI v6 8 <|
      if (σ 12 v6.toNatClampNeg) = (1 : Int32) then
        cl1 (fMo_seeks N v1 v6 v3 σ) fun σ_27 =>
        fMo_minute_165 (fMo_minute_135 N n_135) N v1 v2 v3 v6 σ_27
      else
        fMo_minute_165 (fMo_minute_135 N n_135) N v1 v2 v3 v6 σ
def fMo_minute_70 (N : Nat) : Nat → Int32 → Int32 → Int32 → Int32 → St → Option (St)
  | 0, _, _, _, _, _ => none
  | n_70 + 1, v1, v2, v3, v6, σ =>
    gI (0 : Int32) 2 <|
    if (σ 5 (0 : Int32).toNatClampNeg) ≤ v6 then
      fMo_minute_135 N N v1 v2 v3 (0 : Int32) σ
    else
      gI v6 8 <|
      if (σ 12 v6.toNatClampNeg) = 0 then
        cl1 (fMo_of N v6 (0 : Int32) σ) fun r_33 =>
        gI v6 8 <|
        if (r_33 + (σ 18 v6.toNatClampNeg)) = v3 then
          gI v6 8 <|
          nm (sA σ 12 (upd (σ 12) v6.toNatClampNeg (1 : Int32))) fun σ_38 =>
          gI v6 8 <|
          nm (sA σ_38 15 (upd (σ_38 15) v6.toNatClampNeg v3)) fun σ_40 =>
          fMo_minute_126 (fMo_minute_70 N n_70) N v1 v2 v3 v6 σ_40
        else
          fMo_minute_126 (fMo_minute_70 N n_70) N v1 v2 v3 v6 σ
      else
        fMo_minute_126 (fMo_minute_70 N n_70) N v1 v2 v3 v6 σ
def fMo_minute_3 (N : Nat) : Nat → Int32 → Int32 → Int32 → Int32 → Int32 → Int32 → St → Option (St)
  | 0, _, _, _, _, _, _, _ => none
  | n_3 + 1, v1, v2, v3, v4, v5, v6, σ =>
    gI (0 : Int32) 2 <|
    if (σ 5 (0 : Int32).toNatClampNeg) ≤ v6 then
      cl1 (fMo_frees N v1 v3 v4 v5 σ) fun σ_43 =>
      fMo_minute_70 N N v1 v2 v3 (0 : Int32) σ_43
    else
      gI v6 8 <|
      if (σ 12 v6.toNatClampNeg) = (3 : Int32) then
        gI v6 8 <|
        cl1 (fMo_of N v6 (3 : Int32) σ) fun r_48 =>
        if (v3 - (σ 16 v6.toNatClampNeg)) = r_48 then
          cl1 (fMo_comesBack N v6 v3 σ) fun σ_51 =>
          fMo_minute_51 (fMo_minute_3 N n_3) N v1 v2 v3 v4 v5 v6 σ_51
        else
          fMo_minute_51 (fMo_minute_3 N n_3) N v1 v2 v3 v4 v5 v6 σ
      else
        fMo_minute_51 (fMo_minute_3 N n_3) N v1 v2 v3 v4 v5 v6 σ
def fMo_minute (N : Nat) (p0 : Int32) (p1 : Int32) (p2 : Int32) (p3 : Int32) (p4 : Int32) (σ : St) : Option (St) :=
  fMo_minute_3 N N p0 p1 p2 p3 p4 (0 : Int32) σ
def fMo_run_95 (N : Nat) : Nat → Int32 → Int32 → Int32 → Int32 → Int32 → Int32 → St → Option (St)
  | 0, _, _, _, _, _, _, _ => none
  | n_95 + 1, v1, v2, v3, v4, v5, v6, σ =>
    if v3 < v6 then
      some σ
    else
      cl1 (fMo_minute N v1 v2 v6 v4 v5 σ) fun σ_2 =>
      nm (v6 + 1) fun x6_4 =>
      fMo_run_95 N n_95 v1 v2 v3 v4 v5 x6_4 σ_2
def fMo_run_43 (N : Nat) : Nat → Int32 → Int32 → Int32 → Int32 → Int32 → Int32 → St → Option (St)
  | 0, _, _, _, _, _, _, _ => none
  | n_43 + 1, v1, v2, v3, v4, v5, v6, σ =>
    if (10 : Int32) ≤ v6 then
      nm (sA σ 0 (upd (σ 0) 20 (0 : Int32))) fun σ_6 =>
      nm (sA σ_6 0 (upd (σ_6 0) 21 (0 : Int32))) fun σ_7 =>
      nm (sA σ_7 0 (upd (σ_7 0) 22 (0 : Int32))) fun σ_8 =>
      nm (sA σ_8 0 (upd (σ_8 0) 23 (0 : Int32))) fun σ_9 =>
      fMo_run_95 N N v1 v2 v3 v4 v5 (0 : Int32) σ_9
    else
      gI v6 10 <|
      nm (sA σ 19 (upd (σ 19) v6.toNatClampNeg (-1 : Int32))) fun σ_11 =>
      gI v6 10 <|
      nm (sA σ_11 20 (upd (σ_11 20) v6.toNatClampNeg (-1 : Int32))) fun σ_13 =>
      nm (v6 + 1) fun x6_14 =>
      fMo_run_43 N n_43 v1 v2 v3 v4 v5 x6_14 σ_13
def fMo_run_3 (N : Nat) : Nat → Int32 → Int32 → Int32 → Int32 → Int32 → Int32 → St → Option (St)
  | 0, _, _, _, _, _, _, _ => none
  | n_3 + 1, v1, v2, v3, v4, v5, v6, σ =>
    if (8 : Int32) ≤ v6 then
      fMo_run_43 N N v1 v2 v3 v4 v5 (0 : Int32) σ
    else
      gI v6 8 <|
      nm (sA σ 12 (upd (σ 12) v6.toNatClampNeg (0 : Int32))) fun σ_17 =>
      gI v6 8 <|
      nm (sA σ_17 14 (upd (σ_17 14) v6.toNatClampNeg (0 : Int32))) fun σ_19 =>
      gI v6 8 <|
      nm (sA σ_19 17 (upd (σ_19 17) v6.toNatClampNeg (vp_nar .boolean (0 : Int32)))) fun σ_21 =>
      nm (v6 + 1) fun x6_22 =>
      fMo_run_3 N n_3 v1 v2 v3 v4 v5 x6_22 σ_21
def fMo_run (N : Nat) (p0 : Int32) (p1 : Int32) (p2 : Int32) (p3 : Int32) (p4 : Int32) (σ : St) : Option (St) :=
  fMo_run_3 N N p0 p1 p2 p3 p4 (0 : Int32) σ
def fMo_goes_3 (N : Nat) : Nat → Int32 → Int32 → Int32 → Int32 → Int32 → Int32 → St → Option (St)
  | 0, _, _, _, _, _, _, _ => none
  | n_3 + 1, v1, v2, v3, v4, v5, v6, σ =>
    if (8 : Int32) ≤ v6 then
      cl1 (fMo_run N v1 v2 v3 v4 v5 σ) fun σ_2 =>
      some σ_2
    else
      gI v6 8 <|
      nm (sA σ 18 (upd (σ 18) v6.toNatClampNeg (0 : Int32))) fun σ_5 =>
      nm (v6 + 1) fun x6_6 =>
      fMo_goes_3 N n_3 v1 v2 v3 v4 v5 x6_6 σ_5
def fMo_goes (N : Nat) (p0 : Int32) (p1 : Int32) (p2 : Int32) (p3 : Int32) (p4 : Int32) (σ : St) : Option (St) :=
  fMo_goes_3 N N p0 p1 p2 p3 p4 (0 : Int32) σ
def fMo_whole (N : Nat) (p0 : Int32) (σ : St) : Option (St) :=
  gI (0 : Int32) 10 <|
  gI (1 : Int32) 10 <|
  cl1 (fMo_goes N p0 (σ 0 8) (399 : Int32) (σ 8 (0 : Int32).toNatClampNeg) (σ 8 (1 : Int32).toNatClampNeg) σ) fun σ_3 =>
  some σ_3
def fMo_seat_43 (N : Nat) (σ : St) : Option (Int32 × St) :=
  some ((-1 : Int32), σ)
def fMo_seat_101 (N : Nat) (k0 : Int32) (σ : St) : Option (Int32 × St) :=
  some (k0, σ)
def fMo_seat_87 (N : Nat) (k0 : Int32) (σ : St) : Option (Int32 × St) :=
  if 0 ≤ k0 then
    fMo_seat_101 N k0 σ
  else
    fMo_seat_101 N (-4 : Int32) σ
def fMo_seat (N : Nat) (p0 : Int32) (p1 : Int32) (p2 : Int32) (p3 : Int32) (σ : St) : Option (Int32 × St) :=
  cl1 (fMo_isRule N p0) fun r_2 =>
  if r_2 = 0 then
    fMo_seat_43 N σ
  else
    cl1 (fMo_isMinute N p1) fun r_5 =>
    if r_5 = 0 then
      fMo_seat_43 N σ
    else
      gI (0 : Int32) 2 <|
      cl1 (fMo_in N (p2.toInt64) (0 : Int64) (((σ 4 (0 : Int32).toNatClampNeg) - (1 : Int32)).toInt64)) fun r_9 =>
      if r_9 = 0 then
        fMo_seat_43 N σ
      else
        cl1 (fMo_in N (p3.toInt64) (0 : Int64) (1 : Int64)) fun r_12 =>
        if r_12 = 0 then
          fMo_seat_43 N σ
        else
          gI (0 : Int32) 10 <|
          gI (1 : Int32) 10 <|
          cl1 (fMo_goes N p0 (σ 0 8) p1 (σ 8 (0 : Int32).toNatClampNeg) (σ 8 (1 : Int32).toNatClampNeg) σ) fun σ_17 =>
          if p3 = 0 then
            gI p2 10 <|
            fMo_seat_87 N (σ_17 19 p2.toNatClampNeg) σ_17
          else
            gI p2 10 <|
            fMo_seat_87 N (σ_17 20 p2.toNatClampNeg) σ_17
def fMo_does_22 (N : Nat) (σ : St) : Option (Int32 × St) :=
  some ((-1 : Int32), σ)
def fMo_does (N : Nat) (p0 : Int32) (p1 : Int32) (p2 : Int32) (σ : St) : Option (Int32 × St) :=
  cl1 (fMo_isRule N p0) fun r_1 =>
  if r_1 = 0 then
    fMo_does_22 N σ
  else
    cl1 (fMo_isMinute N p1) fun r_4 =>
    if r_4 = 0 then
      fMo_does_22 N σ
    else
      cl1 (fMo_isReader N p2 σ) fun r_7 =>
      if r_7 = 0 then
        fMo_does_22 N σ
      else
        gI (0 : Int32) 10 <|
        gI (1 : Int32) 10 <|
        cl1 (fMo_goes N p0 (σ 0 8) p1 (σ 8 (0 : Int32).toNatClampNeg) (σ 8 (1 : Int32).toNatClampNeg) σ) fun σ_12 =>
        gI p2 8 <|
        some ((σ_12 12 p2.toNatClampNeg), σ_12)
def fMo_many_4 (N : Nat) : Nat → Int32 → Int32 → Int32 → Option (Int32)
  | 0, _, _, _ => none
  | n_4 + 1, v0, v1, v2 =>
    if (8 : Int32) ≤ v2 then
      some v1
    else
      nm ((v1 + ((v0 >>> (v2 &&& 31)) &&& (1 : Int32)))) fun x1_2 =>
      nm (v2 + 1) fun x2_3 =>
      fMo_many_4 N n_4 v0 x1_2 x2_3
def fMo_many (N : Nat) (p0 : Int32) : Option (Int32) :=
  fMo_many_4 N N p0 (0 : Int32) (0 : Int32)
def fMo_day_19 (N : Nat) (σ : St) : Option (Int32 × St) :=
  some ((-1 : Int32), σ)
def fMo_day_95 (N : Nat) (k0 : Int32) (σ : St) : Option (Int32 × St) :=
  some (k0, σ)
def fMo_day (N : Nat) (p0 : Int32) (p1 : Int32) (σ : St) : Option (Int32 × St) :=
  cl1 (fMo_isRule N p0) fun r_1 =>
  if r_1 = 0 then
    fMo_day_19 N σ
  else
    cl1 (fMo_in N (p1.toInt64) (0 : Int64) (5 : Int64)) fun r_4 =>
    if r_4 = 0 then
      fMo_day_19 N σ
    else
      cl1 (fMo_whole N p0 σ) fun σ_7 =>
      if p1 = 0 then
        fMo_day_95 N (σ_7 0 20) σ_7
      else
        if p1 = (1 : Int32) then
          fMo_day_95 N (σ_7 0 21) σ_7
        else
          if p1 = (2 : Int32) then
            cl1 (fMo_many N (σ_7 0 22)) fun r_16 =>
            fMo_day_95 N r_16 σ_7
          else
            if p1 = (3 : Int32) then
              fMo_day_95 N (σ_7 0 22) σ_7
            else
              if p1 = (4 : Int32) then
                cl1 (fMo_many N (σ_7 0 23)) fun r_14 =>
                fMo_day_95 N r_14 σ_7
              else
                fMo_day_95 N (σ_7 0 23) σ_7
def fMo_sat_15 (N : Nat) (σ : St) : Option (Int32 × St) :=
  some ((-1 : Int32), σ)
def fMo_sat (N : Nat) (p0 : Int32) (p1 : Int32) (σ : St) : Option (Int32 × St) :=
  cl1 (fMo_isRule N p0) fun r_1 =>
  if r_1 = 0 then
    fMo_sat_15 N σ
  else
    cl1 (fMo_isReader N p1 σ) fun r_4 =>
    if r_4 = 0 then
      fMo_sat_15 N σ
    else
      cl1 (fMo_whole N p0 σ) fun σ_7 =>
      gI p1 8 <|
      some ((σ_7 14 p1.toNatClampNeg), σ_7)
def fMo_bettered_169 (k_91 : Int32 → Int32 → Int32 → Int32 → Int32 → Int32 → St → Option (Int32 × St)) (N : Nat) (v1 : Int32) (v2 : Int32) (v3 : Int32) (v4 : Int32) (v6 : Int32) (k0 : Int32) (σ : St) : Option (Int32 × St) :=
  nm (v6 + 1) fun x6_1 =>
  k_91 v1 v2 v3 v4 k0 x6_1 σ
def fMo_bettered_164 (k_91 : Int32 → Int32 → Int32 → Int32 → Int32 → Int32 → St → Option (Int32 × St)) (N : Nat) (v1 : Int32) (v2 : Int32) (v3 : Int32) (v4 : Int32) (v6 : Int32) (σ : St) : Option (Int32 × St) :=
  fMo_bettered_169 k_91 N v1 v2 v3 v4 v6 (1 : Int32) σ
def fMo_bettered_132 (k_91 : Int32 → Int32 → Int32 → Int32 → Int32 → Int32 → St → Option (Int32 × St)) (N : Nat) (v1 : Int32) (v2 : Int32) (v3 : Int32) (v5 : Int32) (v6 : Int32) (k0 : Int32) (σ : St) : Option (Int32 × St) :=
  if v5 = 0 then
    gI (((3 : Int32) * v3) + v6) 15 <|
    gI (((3 : Int32) * v2) + v6) 15 <|
    if (σ 27 (((3 : Int32) * v3) + v6).toNatClampNeg) ≤ (σ 27 (((3 : Int32) * v2) + v6).toNatClampNeg) then
      fMo_bettered_169 k_91 N v1 v2 v3 k0 v6 (0 : Int32) σ
    else
      fMo_bettered_164 k_91 N v1 v2 v3 k0 v6 σ
  else
    fMo_bettered_164 k_91 N v1 v2 v3 k0 v6 σ
def fMo_bettered_131 (k_91 : Int32 → Int32 → Int32 → Int32 → Int32 → Int32 → St → Option (Int32 × St)) (N : Nat) (v1 : Int32) (v2 : Int32) (v3 : Int32) (v5 : Int32) (v6 : Int32) (σ : St) : Option (Int32 × St) :=
  fMo_bettered_132 k_91 N v1 v2 v3 v5 v6 (0 : Int32) σ
def fMo_bettered_195 (k_77 : Int32 → Int32 → Int32 → St → Option (Int32 × St)) (N : Nat) (v2 : Int32) (v3 : Int32) (k0 : Int32) (k1 : Int32) (σ : St) : Option (Int32 × St) :=
  nm ((k0 ||| k1)) fun x1_6 =>
  nm (v3 + 1) fun x3_7 =>
  k_77 x1_6 v2 x3_7 σ
def fMo_bettered_194 (k_77 : Int32 → Int32 → Int32 → St → Option (Int32 × St)) (N : Nat) (v2 : Int32) (v3 : Int32) (k0 : Int32) (σ : St) : Option (Int32 × St) :=
  fMo_bettered_195 k_77 N v2 v3 k0 (0 : Int32) σ
def fMo_bettered_91 (k_77 : Int32 → Int32 → Int32 → St → Option (Int32 × St)) (N : Nat) : Nat → Int32 → Int32 → Int32 → Int32 → Int32 → Int32 → St → Option (Int32 × St)
  | 0, _, _, _, _, _, _, _ => none
  | n_91 + 1, v1, v2, v3, v4, v5, v6, σ =>
    if (3 : Int32) ≤ v6 then
      if v4 = 0 then
        fMo_bettered_194 k_77 N v2 v3 v1 σ
      else
        if v5 = 0 then
          fMo_bettered_194 k_77 N v2 v3 v1 σ
        else
          fMo_bettered_195 k_77 N v2 v3 v1 ((1 : Int32) <<< (v2 &&& 31)) σ
    else
      if v4 = 0 then
        fMo_bettered_131 (fMo_bettered_91 k_77 N n_91) N v1 v2 v3 v5 v6 σ
      else
        gI (((3 : Int32) * v3) + v6) 15 <|
        gI (((3 : Int32) * v2) + v6) 15 <|
        if (σ 27 (((3 : Int32) * v3) + v6).toNatClampNeg) < (σ 27 (((3 : Int32) * v2) + v6).toNatClampNeg) then
          fMo_bettered_131 (fMo_bettered_91 k_77 N n_91) N v1 v2 v3 v5 v6 σ
        else
          fMo_bettered_132 (fMo_bettered_91 k_77 N n_91) N v1 v2 v3 v5 v6 (1 : Int32) σ
def fMo_bettered_77 (k_70 : Int32 → Int32 → St → Option (Int32 × St)) (N : Nat) : Nat → Int32 → Int32 → Int32 → St → Option (Int32 × St)
  | 0, _, _, _, _ => none
  | n_77 + 1, v1, v2, v3, σ =>
    if (5 : Int32) ≤ v3 then
      nm (v2 + 1) fun x2_16 =>
      k_70 v1 x2_16 σ
    else
      fMo_bettered_91 (fMo_bettered_77 k_70 N n_77) N N v1 v2 v3 (1 : Int32) (0 : Int32) (0 : Int32) σ
def fMo_bettered_70 (N : Nat) : Nat → Int32 → Int32 → St → Option (Int32 × St)
  | 0, _, _, _ => none
  | n_70 + 1, v1, v2, σ =>
    if (5 : Int32) ≤ v2 then
      some (v1, σ)
    else
      fMo_bettered_77 (fMo_bettered_70 N n_70) N N v1 v2 (0 : Int32) σ
def fMo_bettered_2 (N : Nat) : Nat → Int32 → St → Option (Int32 × St)
  | 0, _, _ => none
  | n_2 + 1, v1, σ =>
    if (5 : Int32) ≤ v1 then
      fMo_bettered_70 N N (0 : Int32) (0 : Int32) σ
    else
      cl1 (fMo_whole N v1 σ) fun σ_19 =>
      gI ((3 : Int32) * v1) 15 <|
      nm (sA σ_19 27 (upd (σ_19 27) ((3 : Int32) * v1).toNatClampNeg (σ_19 0 20))) fun σ_22 =>
      cl1 (fMo_many N (σ_22 0 22)) fun r_23 =>
      gI (((3 : Int32) * v1) + (1 : Int32)) 15 <|
      nm (sA σ_22 27 (upd (σ_22 27) (((3 : Int32) * v1) + (1 : Int32)).toNatClampNeg (-r_23))) fun σ_26 =>
      cl1 (fMo_many N (σ_26 0 23)) fun r_27 =>
      gI (((3 : Int32) * v1) + (2 : Int32)) 15 <|
      nm (sA σ_26 27 (upd (σ_26 27) (((3 : Int32) * v1) + (2 : Int32)).toNatClampNeg (-r_27))) fun σ_30 =>
      nm (v1 + 1) fun x1_31 =>
      fMo_bettered_2 N n_2 x1_31 σ_30
def fMo_bettered (N : Nat) (σ : St) : Option (Int32 × St) :=
  fMo_bettered_2 N N (0 : Int32) σ
def fMo_rest_27 (N : Nat) (σ : St) : Option (Int32 × St) :=
  some ((-1 : Int32), σ)
def fMo_rest_78 (N : Nat) : Nat → Int32 → Int32 → Int32 → St → Option (Int32 × St)
  | 0, _, _, _, _ => none
  | n_78 + 1, v1, v2, v3, σ =>
    gI (0 : Int32) 2 <|
    if (σ 5 (0 : Int32).toNatClampNeg) ≤ v3 then
      some ((1 : Int32), σ)
    else
      gI (0 : Int32) 10 <|
      gI (1 : Int32) 10 <|
      cl1 (fMo_goes N v1 (v2 ^^^ ((1 : Int32) <<< (v3 &&& 31))) (399 : Int32) (σ 8 (0 : Int32).toNatClampNeg) (σ 8 (1 : Int32).toNatClampNeg) σ) fun σ_5 =>
      gI v3 8 <|
      gI v3 2048 <|
      if (σ_5 14 v3.toNatClampNeg) ≤ (σ_5 26 v3.toNatClampNeg) then
        nm (v3 + 1) fun x3_10 =>
        fMo_rest_78 N n_78 v1 v2 x3_10 σ_5
      else
        some ((0 : Int32), σ_5)
def fMo_rest_52 (N : Nat) : Nat → Int32 → Int32 → Int32 → St → Option (Int32 × St)
  | 0, _, _, _, _ => none
  | n_52 + 1, v1, v2, v3, σ =>
    if (8 : Int32) ≤ v3 then
      fMo_rest_78 N N v1 v2 (0 : Int32) σ
    else
      gI v3 8 <|
      gI v3 2048 <|
      nm (sA σ 26 (upd (σ 26) v3.toNatClampNeg (σ 14 v3.toNatClampNeg))) fun σ_14 =>
      nm (v3 + 1) fun x3_15 =>
      fMo_rest_52 N n_52 v1 v2 x3_15 σ_14
def fMo_rest (N : Nat) (p0 : Int32) (p1 : Int32) (σ : St) : Option (Int32 × St) :=
  cl1 (fMo_isRule N p0) fun r_16 =>
  if r_16 = 0 then
    fMo_rest_27 N σ
  else
    gI (0 : Int32) 2 <|
    cl1 (fMo_in N (p1.toInt64) (0 : Int64) ((((1 : Int32) <<< ((σ 5 (0 : Int32).toNatClampNeg) &&& 31)) - (1 : Int32)).toInt64)) fun r_20 =>
    if r_20 = 0 then
      fMo_rest_27 N σ
    else
      gI (0 : Int32) 10 <|
      gI (1 : Int32) 10 <|
      cl1 (fMo_goes N p0 p1 (399 : Int32) (σ 8 (0 : Int32).toNatClampNeg) (σ 8 (1 : Int32).toNatClampNeg) σ) fun σ_25 =>
      fMo_rest_52 N N p0 p1 (0 : Int32) σ_25
def fMo_rests_19 (N : Nat) (σ : St) : Option (Int32 × St) :=
  some ((-1 : Int32), σ)
def fMo_rests_64 (k_33 : Int32 → Int32 → Int32 → Int32 → St → Option (Int32 × St)) (N : Nat) : Nat → Int32 → Int32 → Int32 → Int32 → Int32 → St → Option (Int32 × St)
  | 0, _, _, _, _, _, _ => none
  | n_64 + 1, v1, v2, v3, v4, v5, σ =>
    if (8 : Int32) ≤ v5 then
      nm (v4 + 1) fun x4_2 =>
      k_33 v1 v2 v3 x4_2 σ
    else
      gI v5 8 <|
      gI (((8 : Int32) * v4) + v5) 2048 <|
      nm (sA σ 26 (upd (σ 26) (((8 : Int32) * v4) + v5).toNatClampNeg (σ 14 v5.toNatClampNeg))) fun σ_5 =>
      nm (v5 + 1) fun x5_6 =>
      fMo_rests_64 k_33 N n_64 v1 v2 v3 v4 x5_6 σ_5
def fMo_rests_184 (k_129 : Int32 → Int32 → Int32 → Int32 → Int32 → Int32 → Int32 → Int32 → St → Option (Int32 × St)) (N : Nat) (v2 : Int32) (v3 : Int32) (v4 : Int32) (v5 : Int32) (v6 : Int32) (v7 : Int32) (v9 : Int32) (k0 : Int32) (σ : St) : Option (Int32 × St) :=
  nm (v9 + 1) fun x9_7 =>
  k_129 v2 v3 v4 v5 v6 v7 k0 x9_7 σ
def fMo_rests_183 (k_129 : Int32 → Int32 → Int32 → Int32 → Int32 → Int32 → Int32 → Int32 → St → Option (Int32 × St)) (N : Nat) (v2 : Int32) (v3 : Int32) (v4 : Int32) (v5 : Int32) (v6 : Int32) (v7 : Int32) (v9 : Int32) (σ : St) : Option (Int32 × St) :=
  fMo_rests_184 k_129 N v2 v3 v4 v5 v6 v7 v9 (0 : Int32) σ
def fMo_rests_238 (k_117 : Int32 → Int32 → Int32 → Int32 → Int32 → Int32 → St → Option (Int32 × St)) (N : Nat) (v2 : Int32) (v3 : Int32) (v4 : Int32) (v5 : Int32) (v7 : Int32) (k0 : Int32) (σ : St) : Option (Int32 × St) :=
  nm (v7 + 1) fun x7_8 =>
  k_117 v2 v3 v4 v5 k0 x7_8 σ
def fMo_rests_224 (k_117 : Int32 → Int32 → Int32 → Int32 → Int32 → Int32 → St → Option (Int32 × St)) (N : Nat) (v2 : Int32) (v3 : Int32) (v4 : Int32) (v6 : Int32) (v7 : Int32) (v8 : Int32) (k0 : Int32) (σ : St) : Option (Int32 × St) :=
  if v8 = 0 then
    fMo_rests_238 k_117 N v2 v3 v4 k0 v7 v6 σ
  else
    fMo_rests_238 k_117 N v2 v3 v4 k0 v7 v7 σ
def fMo_rests_222 (k_117 : Int32 → Int32 → Int32 → Int32 → Int32 → Int32 → St → Option (Int32 × St)) (N : Nat) (v2 : Int32) (v3 : Int32) (v4 : Int32) (v5 : Int32) (v6 : Int32) (v7 : Int32) (v8 : Int32) (σ : St) : Option (Int32 × St) :=
  fMo_rests_224 k_117 N v2 v3 v4 v6 v7 v8 v5 σ
def fMo_rests_204 (k_117 : Int32 → Int32 → Int32 → Int32 → Int32 → Int32 → St → Option (Int32 × St)) (N : Nat) (v2 : Int32) (v3 : Int32) (v5 : Int32) (v6 : Int32) (v7 : Int32) (v8 : Int32) (k0 : Int32) (k1 : Int32) (σ : St) : Option (Int32 × St) :=
  nm ((k0 + k1)) fun x4_10 =>
  if v8 = 0 then
    fMo_rests_222 k_117 N v2 v3 x4_10 v5 v6 v7 v8 σ
  else
    if 0 ≤ v5 then
      fMo_rests_222 k_117 N v2 v3 x4_10 v5 v6 v7 v8 σ
    else
      fMo_rests_224 k_117 N v2 v3 x4_10 v6 v7 v8 v7 σ
def fMo_rests_129 (k_117 : Int32 → Int32 → Int32 → Int32 → Int32 → Int32 → St → Option (Int32 × St)) (N : Nat) : Nat → Int32 → Int32 → Int32 → Int32 → Int32 → Int32 → Int32 → Int32 → St → Option (Int32 × St)
  | 0, _, _, _, _, _, _, _, _, _ => none
  | n_129 + 1, v2, v3, v4, v5, v6, v7, v8, v9, σ =>
    gI (0 : Int32) 2 <|
    if (σ 5 (0 : Int32).toNatClampNeg) ≤ v9 then
      if v8 = 0 then
        fMo_rests_204 k_117 N v2 v3 v5 v6 v7 v8 v4 (0 : Int32) σ
      else
        fMo_rests_204 k_117 N v2 v3 v5 v6 v7 v8 v4 (1 : Int32) σ
    else
      if v8 = 0 then
        fMo_rests_183 (fMo_rests_129 k_117 N n_129) N v2 v3 v4 v5 v6 v7 v9 σ
      else
        gI (((8 : Int32) * (v7 ^^^ ((1 : Int32) <<< (v9 &&& 31)))) + v9) 2048 <|
        gI (((8 : Int32) * v7) + v9) 2048 <|
        if (σ 26 (((8 : Int32) * v7) + v9).toNatClampNeg) < (σ 26 (((8 : Int32) * (v7 ^^^ ((1 : Int32) <<< (v9 &&& 31)))) + v9).toNatClampNeg) then
          fMo_rests_183 (fMo_rests_129 k_117 N n_129) N v2 v3 v4 v5 v6 v7 v9 σ
        else
          fMo_rests_184 (fMo_rests_129 k_117 N n_129) N v2 v3 v4 v5 v6 v7 v9 (1 : Int32) σ
def fMo_rests_267 (N : Nat) (k0 : Int32) (σ : St) : Option (Int32 × St) :=
  some (k0, σ)
def fMo_rests_117 (N : Nat) : Nat → Int32 → Int32 → Int32 → Int32 → Int32 → Int32 → St → Option (Int32 × St)
  | 0, _, _, _, _, _, _, _ => none
  | n_117 + 1, v2, v3, v4, v5, v6, v7, σ =>
    if v3 ≤ v7 then
      if v2 = 0 then
        fMo_rests_267 N v4 σ
      else
        if v2 = (1 : Int32) then
          fMo_rests_267 N v5 σ
        else
          fMo_rests_267 N v6 σ
    else
      fMo_rests_129 (fMo_rests_117 N n_117) N N v2 v3 v4 v5 v6 v7 (1 : Int32) (0 : Int32) σ
def fMo_rests_33 (N : Nat) : Nat → Int32 → Int32 → Int32 → Int32 → St → Option (Int32 × St)
  | 0, _, _, _, _, _ => none
  | n_33 + 1, v1, v2, v3, v4, σ =>
    if v3 ≤ v4 then
      fMo_rests_117 N N v2 v3 (0 : Int32) (-4 : Int32) (-4 : Int32) (0 : Int32) σ
    else
      gI (0 : Int32) 10 <|
      gI (1 : Int32) 10 <|
      cl1 (fMo_goes N v1 v4 (399 : Int32) (σ 8 (0 : Int32).toNatClampNeg) (σ 8 (1 : Int32).toNatClampNeg) σ) fun σ_26 =>
      fMo_rests_64 (fMo_rests_33 N n_33) N N v1 v2 v3 v4 (0 : Int32) σ_26
def fMo_rests (N : Nat) (p0 : Int32) (p1 : Int32) (σ : St) : Option (Int32 × St) :=
  cl1 (fMo_isRule N p0) fun r_28 =>
  if r_28 = 0 then
    fMo_rests_19 N σ
  else
    cl1 (fMo_in N (p1.toInt64) (0 : Int64) (2 : Int64)) fun r_31 =>
    if r_31 = 0 then
      fMo_rests_19 N σ
    else
      gI (0 : Int32) 2 <|
      nm (((1 : Int32) <<< ((σ 5 (0 : Int32).toNatClampNeg) &&& 31))) fun x3_35 =>
      fMo_rests_33 N N p0 p1 x3_35 (0 : Int32) σ
def fMo_counted_4 (N : Nat) (σ : St) : Nat → Int32 → Int32 → Int32 → Option (Int32)
  | 0, _, _, _ => none
  | n_4 + 1, v1, v2, v3 =>
    if (400 : Int32) ≤ v3 then
      some (v1 * v2)
    else
      gI v3 400 <|
      nm ((v2 + (σ 25 v3.toNatClampNeg))) fun x2_3 =>
      nm ((v3 + v1)) fun x3_4 =>
      fMo_counted_4 N σ n_4 v1 x2_3 x3_4
def fMo_counted (N : Nat) (p0 : Int32) (σ : St) : Option (Int32) :=
  fMo_counted_4 N σ N p0 (0 : Int32) (0 : Int32)
def fMo_rounds_19 (N : Nat) (σ : St) : Option (Int32 × St) :=
  some ((-1 : Int32), σ)
def fMo_rounds (N : Nat) (p0 : Int32) (p1 : Int32) (σ : St) : Option (Int32 × St) :=
  cl1 (fMo_isRule N p0) fun r_1 =>
  if r_1 = 0 then
    fMo_rounds_19 N σ
  else
    cl1 (fMo_in N (p1.toInt64) (1 : Int64) (99 : Int64)) fun r_4 =>
    if r_4 = 0 then
      fMo_rounds_19 N σ
    else
      cl1 (fMo_whole N p0 σ) fun σ_7 =>
      cl1 (fMo_counted N p1 σ_7) fun r_9 =>
      some (r_9, σ_7)
def fMo_often_19 (N : Nat) (σ : St) : Option (Int32 × St) :=
  some ((-1 : Int32), σ)
def fMo_often_68 (k_32 : Int32 → Int32 → Int32 → St → Option (Int32 × St)) (N : Nat) (v2 : Int32) (v4 : Int32) (k0 : Int32) (σ : St) : Option (Int32 × St) :=
  nm (v4 + 1) fun x4_1 =>
  k_32 v2 k0 x4_1 σ
def fMo_often_32 (N : Nat) : Nat → Int32 → Int32 → Int32 → St → Option (Int32 × St)
  | 0, _, _, _, _ => none
  | n_32 + 1, v2, v3, v4, σ =>
    if (100 : Int32) ≤ v4 then
      some (v3, σ)
    else
      cl1 (fMo_counted N v4 σ) fun r_3 =>
      cl1 (fMo_in N ((r_3 - (σ 0 20)).toInt64) ((-v2).toInt64) (v2.toInt64)) fun r_5 =>
      if r_5 = 0 then
        fMo_often_68 (fMo_often_32 N n_32) N v2 v4 v3 σ
      else
        fMo_often_68 (fMo_often_32 N n_32) N v2 v4 v4 σ
def fMo_often (N : Nat) (p0 : Int32) (p1 : Int32) (σ : St) : Option (Int32 × St) :=
  cl1 (fMo_isRule N p0) fun r_8 =>
  if r_8 = 0 then
    fMo_often_19 N σ
  else
    cl1 (fMo_in N (p1.toInt64) (0 : Int64) (9999 : Int64)) fun r_11 =>
    if r_11 = 0 then
      fMo_often_19 N σ
    else
      cl1 (fMo_whole N p0 σ) fun σ_14 =>
      fMo_often_32 N N p1 (-4 : Int32) (1 : Int32) σ_14
def fMo_porter_17 (N : Nat) : Nat → Int32 → Int32 → St → Option (Int32 × St)
  | 0, _, _, _ => none
  | n_17 + 1, v1, v2, σ =>
    if v2 ≤ 0 then
      some ((-4 : Int32), σ)
    else
      gI (0 : Int32) 10 <|
      cl1 (fMo_goes N (2 : Int32) (σ 0 8) (399 : Int32) (σ 8 (0 : Int32).toNatClampNeg) v2 σ) fun σ_3 =>
      cl1 (fMo_many N (σ_3 0 22)) fun r_5 =>
      if v1 < r_5 then
        nm (v2 + (-1)) fun x2_8 =>
        fMo_porter_17 N n_17 v1 x2_8 σ_3
      else
        some (v2, σ_3)
def fMo_porter (N : Nat) (p0 : Int32) (σ : St) : Option (Int32 × St) :=
  cl1 (fMo_in N (p0.toInt64) (0 : Int64) (8 : Int64)) fun r_9 =>
  if r_9 = 0 then
    some ((-1 : Int32), σ)
  else
    fMo_porter_17 N N p0 (99 : Int32) σ
def fMo_card_17 (N : Nat) : Nat → Int32 → Int32 → St → Option (Int32 × St)
  | 0, _, _, _ => none
  | n_17 + 1, v1, v2, σ =>
    if v2 ≤ 0 then
      some ((-4 : Int32), σ)
    else
      gI (1 : Int32) 10 <|
      cl1 (fMo_goes N (2 : Int32) (σ 0 8) (399 : Int32) v2 (σ 8 (1 : Int32).toNatClampNeg) σ) fun σ_3 =>
      cl1 (fMo_many N (σ_3 0 22)) fun r_5 =>
      if v1 < r_5 then
        nm (v2 + (-1)) fun x2_8 =>
        fMo_card_17 N n_17 v1 x2_8 σ_3
      else
        some (v2, σ_3)
def fMo_card (N : Nat) (p0 : Int32) (σ : St) : Option (Int32 × St) :=
  cl1 (fMo_in N (p0.toInt64) (0 : Int64) (8 : Int64)) fun r_9 =>
  if r_9 = 0 then
    some ((-1 : Int32), σ)
  else
    fMo_card_17 N N p0 (99 : Int32) σ
def fMo_power_5 (N : Nat) : Nat → Int32 → Int32 → Int64 → Int32 → Option (Int64)
  | 0, _, _, _, _ => none
  | n_5 + 1, v0, v1, v2, v4 =>
    if v1 ≤ v4 then
      some v2
    else
      nm ((v2 * (v0.toInt64))) fun x2_2 =>
      nm (v4 + 1) fun x4_3 =>
      fMo_power_5 N n_5 v0 v1 x2_2 x4_3
def fMo_power (N : Nat) (p0 : Int32) (p1 : Int32) : Option (Int64) :=
  fMo_power_5 N N p0 p1 (1 : Int64) (0 : Int32)
def fMo_come_46 (k_8 : Int32 → Int32 → Int32 → Int64 → Int64 → Int32 → Option (Int64)) (N : Nat) (v0 : Int32) (v1 : Int32) (v2 : Int32) (v5 : Int64) (v7 : Int32) (k0 : Int64) (k1 : Int64) : Option (Int64) :=
  nm ((k0 + k1)) fun x3_1 =>
  gZL (((v7 + (1 : Int32)).toInt64)) <|
  nm (((v5 * ((v0 - v7).toInt64)) / ((v7 + (1 : Int32)).toInt64))) fun x5_3 =>
  nm (v7 + 1) fun x7_4 =>
  k_8 v0 v1 v2 x3_1 x5_3 x7_4
def fMo_come_8 (N : Nat) : Nat → Int32 → Int32 → Int32 → Int64 → Int64 → Int32 → Option (Int64)
  | 0, _, _, _, _, _, _ => none
  | n_8 + 1, v0, v1, v2, v3, v5, v7 =>
    if v0 < v7 then
      some v3
    else
      if v1 < v7 then
        fMo_come_46 (fMo_come_8 N n_8) N v0 v1 v2 v5 v7 v3 (0 : Int64)
      else
        cl1 (fMo_power N v2 v7) fun r_7 =>
        cl1 (fMo_power N ((10 : Int32) - v2) (v0 - v7)) fun r_9 =>
        fMo_come_46 (fMo_come_8 N n_8) N v0 v1 v2 v5 v7 v3 ((v5 * r_7) * r_9)
def fMo_come (N : Nat) (p0 : Int32) (p1 : Int32) (p2 : Int32) : Option (Int64) :=
  fMo_come_8 N N p0 p1 p2 (0 : Int64) (1 : Int64) (0 : Int32)
def fMo_lowest_6 (N : Nat) : Nat → Int64 → Int64 → Int64 → Int64 → (Nat → Int64) → Option ((Nat → Int64))
  | 0, _, _, _, _, _ => none
  | n_6 + 1, v1, v3, v5, v7, Λ =>
    if (lg_cmp v7 (0 : Int64)) = 0 then
      gZL (v5) <|
      nm (vp_updL Λ 27 (v1 / v5)) fun Λ_3 =>
      gZL (v5) <|
      nm (vp_updL Λ_3 28 (v3 / v5)) fun Λ_5 =>
      some Λ_5
    else
      gZL (v7) <|
      nm ((v5 - v5 / v7 * v7)) fun x9_7 =>
      fMo_lowest_6 N n_6 v1 v3 v7 x9_7 Λ
def fMo_lowest (N : Nat) (p0 : Int64) (p1 : Int64) (Λ : Nat → Int64) : Option ((Nat → Int64)) :=
  fMo_lowest_6 N N p0 p1 p0 p1 Λ
def fMo_booked_47 (N : Nat) (Λ : Nat → Int64) : Option (Int64 × (Nat → Int64)) :=
  some ((-1 : Int64), Λ)
def fMo_booked_83 (N : Nat) (k0 : Int64) (Λ : Nat → Int64) : Option (Int64 × (Nat → Int64)) :=
  some (k0, Λ)
def fMo_booked (N : Nat) (p0 : Int32) (p1 : Int32) (p2 : Int32) (p3 : Int32) (Λ : Nat → Int64) : Option (Int64 × (Nat → Int64)) :=
  cl1 (fMo_in N (p0.toInt64) (1 : Int64) (14 : Int64)) fun r_1 =>
  if r_1 = 0 then
    fMo_booked_47 N Λ
  else
    cl1 (fMo_in N (p1.toInt64) (1 : Int64) (14 : Int64)) fun r_4 =>
    if r_4 = 0 then
      fMo_booked_47 N Λ
    else
      cl1 (fMo_in N (p2.toInt64) (0 : Int64) (10 : Int64)) fun r_7 =>
      if r_7 = 0 then
        fMo_booked_47 N Λ
      else
        cl1 (fMo_in N (p3.toInt64) (0 : Int64) (1 : Int64)) fun r_10 =>
        if r_10 = 0 then
          fMo_booked_47 N Λ
        else
          cl1 (fMo_come N p0 p1 p2) fun r_13 =>
          cl1 (fMo_power N (10 : Int32) p0) fun r_15 =>
          cl1 (fMo_lowest N r_13 r_15 Λ) fun Λ_17 =>
          if p3 = 0 then
            fMo_booked_83 N (Λ_17 27) Λ_17
          else
            fMo_booked_83 N (Λ_17 28) Λ_17
def fMo_over_36 (N : Nat) : Option (Int32) :=
  some (-1 : Int32)
def fMo_over_83 (k_44 : Int32 → Int32 → Int32 → Int32 → Int32 → Option (Int32)) (N : Nat) (v1 : Int32) (v2 : Int32) (v3 : Int32) (v5 : Int32) (k0 : Int32) : Option (Int32) :=
  nm (v5 + 1) fun x5_1 =>
  k_44 v1 v2 v3 k0 x5_1
def fMo_over_44 (N : Nat) : Nat → Int32 → Int32 → Int32 → Int32 → Int32 → Option (Int32)
  | 0, _, _, _, _, _ => none
  | n_44 + 1, v1, v2, v3, v4, v5 =>
    if (15 : Int32) ≤ v5 then
      some v4
    else
      cl1 (fMo_come N v5 v1 v2) fun r_3 =>
      cl1 (fMo_power N (10 : Int32) v5) fun r_5 =>
      if (lg_cmp ((100 : Int64) * r_3) ((v3.toInt64) * r_5)) < 0 then
        fMo_over_83 (fMo_over_44 N n_44) N v1 v2 v3 v5 v4
      else
        fMo_over_83 (fMo_over_44 N n_44) N v1 v2 v3 v5 v5
def fMo_over (N : Nat) (p0 : Int32) (p1 : Int32) (p2 : Int32) : Option (Int32) :=
  cl1 (fMo_in N (p0.toInt64) (1 : Int64) (14 : Int64)) fun r_8 =>
  if r_8 = 0 then
    fMo_over_36 N
  else
    cl1 (fMo_in N (p1.toInt64) (0 : Int64) (10 : Int64)) fun r_11 =>
    if r_11 = 0 then
      fMo_over_36 N
    else
      cl1 (fMo_in N (p2.toInt64) (0 : Int64) (100 : Int64)) fun r_14 =>
      if r_14 = 0 then
        fMo_over_36 N
      else
        fMo_over_44 N N p0 p1 p2 p0 p0
def fMo_dare_34 (N : Nat) (σ : St) : Option (Int32) :=
  some (-1 : Int32)
def fMo_dare_131 (k_45 : Int32 → Int32 → Int32 → Int32 → Int32 → Int32 → Option (Int32)) (N : Nat) (σ : St) (v1 : Int32) (v2 : Int32) (v3 : Int32) (v4 : Int32) (v6 : Int32) (k0 : Int32) (k1 : Int32) : Option (Int32) :=
  nm ((k0 + k1)) fun x5_1 =>
  nm (v6 + 1) fun x6_2 =>
  k_45 v1 v2 v3 v4 x5_1 x6_2
def fMo_dare_130 (k_45 : Int32 → Int32 → Int32 → Int32 → Int32 → Int32 → Option (Int32)) (N : Nat) (σ : St) (v1 : Int32) (v2 : Int32) (v3 : Int32) (v4 : Int32) (v6 : Int32) (k0 : Int32) : Option (Int32) :=
  fMo_dare_131 k_45 N σ v1 v2 v3 v4 v6 k0 (0 : Int32)
def fMo_dare_103 (k_45 : Int32 → Int32 → Int32 → Int32 → Int32 → Int32 → Option (Int32)) (N : Nat) (σ : St) (v1 : Int32) (v2 : Int32) (v3 : Int32) (v5 : Int32) (v6 : Int32) (v7 : Int32) (k0 : Int32) (k1 : Int32) : Option (Int32) :=
  nm ((k0 + k1)) fun x4_3 =>
  if v7 = 0 then
    fMo_dare_130 k_45 N σ v1 v2 v3 x4_3 v6 v5
  else
    cl1 (fMo_of N v6 (3 : Int32) σ) fun r_5 =>
    if (v1 + v2) < r_5 then
      fMo_dare_130 k_45 N σ v1 v2 v3 x4_3 v6 v5
    else
      fMo_dare_131 k_45 N σ v1 v2 v3 x4_3 v6 v5 (1 : Int32)
def fMo_dare_89 (k_45 : Int32 → Int32 → Int32 → Int32 → Int32 → Int32 → Option (Int32)) (N : Nat) (σ : St) (v1 : Int32) (v2 : Int32) (v3 : Int32) (v4 : Int32) (v5 : Int32) (v6 : Int32) (k0 : Int32) : Option (Int32) :=
  if k0 = 0 then
    fMo_dare_103 k_45 N σ v1 v2 v3 v5 v6 k0 v4 (0 : Int32)
  else
    fMo_dare_103 k_45 N σ v1 v2 v3 v5 v6 k0 v4 (1 : Int32)
def fMo_dare_88 (k_45 : Int32 → Int32 → Int32 → Int32 → Int32 → Int32 → Option (Int32)) (N : Nat) (σ : St) (v1 : Int32) (v2 : Int32) (v3 : Int32) (v4 : Int32) (v5 : Int32) (v6 : Int32) : Option (Int32) :=
  fMo_dare_89 k_45 N σ v1 v2 v3 v4 v5 v6 (0 : Int32)
def fMo_dare_161 (N : Nat) (σ : St) (k0 : Int32) : Option (Int32) :=
  some k0
def fMo_dare_45 (N : Nat) (σ : St) : Nat → Int32 → Int32 → Int32 → Int32 → Int32 → Int32 → Option (Int32)
  | 0, _, _, _, _, _, _ => none
  | n_45 + 1, v1, v2, v3, v4, v5, v6 =>
    gI (0 : Int32) 2 <|
    if (σ 5 (0 : Int32).toNatClampNeg) ≤ v6 then
      if v4 = 0 then
        fMo_dare_161 N σ (-4 : Int32)
      else
        if v3 = 0 then
          fMo_dare_161 N σ v5
        else
          fMo_dare_161 N σ v4
    else
      cl1 (fMo_of N v6 (2 : Int32) σ) fun r_13 =>
      cl1 (fMo_of N v6 (1 : Int32) σ) fun r_15 =>
      if r_15 ≤ r_13 then
        fMo_dare_88 (fMo_dare_45 N σ n_45) N σ v1 v2 v3 v4 v5 v6
      else
        cl1 (fMo_of N v6 (3 : Int32) σ) fun r_18 =>
        if r_18 ≤ v1 then
          fMo_dare_88 (fMo_dare_45 N σ n_45) N σ v1 v2 v3 v4 v5 v6
        else
          fMo_dare_89 (fMo_dare_45 N σ n_45) N σ v1 v2 v3 v4 v5 v6 (1 : Int32)
def fMo_dare (N : Nat) (p0 : Int32) (p1 : Int32) (p2 : Int32) (σ : St) : Option (Int32) :=
  cl1 (fMo_in N (p0.toInt64) (0 : Int64) (98 : Int64)) fun r_21 =>
  if r_21 = 0 then
    fMo_dare_34 N σ
  else
    cl1 (fMo_in N (p1.toInt64) (1 : Int64) (99 : Int64)) fun r_24 =>
    if r_24 = 0 then
      fMo_dare_34 N σ
    else
      cl1 (fMo_in N (p2.toInt64) (0 : Int64) (1 : Int64)) fun r_27 =>
      if r_27 = 0 then
        fMo_dare_34 N σ
      else
        fMo_dare_45 N σ N p0 p1 p2 (0 : Int32) (0 : Int32) (0 : Int32)
def fMo_drawnDay_2 (N : Nat) : Nat → Int32 → Int32 → Int32 → St → Option (Int32 × St)
  | 0, _, _, _, _ => none
  | n_2 + 1, v1, v2, v3, σ =>
    if (8 : Int32) ≤ v3 then
      gI (0 : Int32) 10 <|
      gI (1 : Int32) 10 <|
      cl1 (fMo_run N v2 (σ 0 8) (399 : Int32) (σ 8 (0 : Int32).toNatClampNeg) (σ 8 (1 : Int32).toNatClampNeg) σ) fun σ_4 =>
      cl1 (fMo_many N (σ_4 0 22)) fun r_6 =>
      some (r_6, σ_4)
    else
      nm (((((7919 : Int64) * (v1.toInt64)) + ((6151 : Int64) * (v3.toInt64))) + (1 : Int64))) fun x4_8 =>
      gI (4 : Int32) 10 <|
      gZL ((((σ 8 (4 : Int32).toNatClampNeg) + (1 : Int32)).toInt64)) <|
      gI v3 8 <|
      nm (sA σ 18 (upd (σ 18) v3.toNatClampNeg ((((x4_8 * x4_8) - (x4_8 * x4_8) / (65521 : Int64) * (65521 : Int64)) - ((x4_8 * x4_8) - (x4_8 * x4_8) / (65521 : Int64) * (65521 : Int64)) / (((σ 8 (4 : Int32).toNatClampNeg) + (1 : Int32)).toInt64) * (((σ 8 (4 : Int32).toNatClampNeg) + (1 : Int32)).toInt64)).toInt32))) fun σ_12 =>
      nm (v3 + 1) fun x3_13 =>
      fMo_drawnDay_2 N n_2 v1 v2 x3_13 σ_12
def fMo_drawnDay (N : Nat) (p0 : Int32) (p1 : Int32) (σ : St) : Option (Int32 × St) :=
  fMo_drawnDay_2 N N p0 p1 (0 : Int32) σ
def fMo_isSeed (N : Nat) (p0 : Int32) : Option (Int32) :=
  cl1 (fMo_in N (p0.toInt64) (0 : Int64) (9999 : Int64)) fun r_1 =>
  gB r_1 <|
  some r_1
def fMo_drawn_24 (N : Nat) (k0 : Int32) (σ : St) : Option (Int32 × St) :=
  some (k0, σ)
def fMo_drawn_23 (N : Nat) (σ : St) : Option (Int32 × St) :=
  fMo_drawn_24 N (-1 : Int32) σ
def fMo_drawn (N : Nat) (p0 : Int32) (p1 : Int32) (σ : St) : Option (Int32 × St) :=
  cl1 (fMo_isSeed N p0) fun r_1 =>
  if r_1 = 0 then
    fMo_drawn_23 N σ
  else
    cl1 (fMo_isRule N p1) fun r_4 =>
    if r_4 = 0 then
      fMo_drawn_23 N σ
    else
      cl2 (fMo_drawnDay N p0 p1 σ) fun r_7 σ_8 =>
      fMo_drawn_24 N r_7 σ_8
def fMo_ten_14 (N : Nat) (σ : St) : Option (Int32 × St) :=
  some ((-1 : Int32), σ)
def fMo_ten_50 (k_21 : Int32 → Int32 → Int32 → Int32 → St → Option (Int32 × St)) (N : Nat) (v1 : Int32) (v2 : Int32) (v4 : Int32) (k0 : Int32) (k1 : Int32) (σ : St) : Option (Int32 × St) :=
  nm ((k0 + k1)) fun x3_1 =>
  nm (v4 + 1) fun x4_2 =>
  k_21 v1 v2 x3_1 x4_2 σ
def fMo_ten_21 (N : Nat) : Nat → Int32 → Int32 → Int32 → Int32 → St → Option (Int32 × St)
  | 0, _, _, _, _, _ => none
  | n_21 + 1, v1, v2, v3, v4, σ =>
    if (10 : Int32) ≤ v4 then
      some (v3, σ)
    else
      cl2 (fMo_drawnDay N ((v1 + v4) - (v1 + v4) / (10000 : Int32) * (10000 : Int32)) v2 σ) fun r_4 σ_5 =>
      if r_4 = 0 then
        fMo_ten_50 (fMo_ten_21 N n_21) N v1 v2 v4 v3 (1 : Int32) σ_5
      else
        fMo_ten_50 (fMo_ten_21 N n_21) N v1 v2 v4 v3 (0 : Int32) σ_5
def fMo_ten (N : Nat) (p0 : Int32) (p1 : Int32) (σ : St) : Option (Int32 × St) :=
  cl1 (fMo_isSeed N p0) fun r_8 =>
  if r_8 = 0 then
    fMo_ten_14 N σ
  else
    cl1 (fMo_isRule N p1) fun r_11 =>
    if r_11 = 0 then
      fMo_ten_14 N σ
    else
      fMo_ten_21 N N p0 p1 (0 : Int32) (0 : Int32) σ
def fMo_keep (N : Nat) (σ : St) : Option (Int32 × St) :=
  if (σ 0 9) = (2 : Int32) then
    some ((-3 : Int32), σ)
  else
    gI (σ 0 9) 2 <|
    nm (sA σ 11 (upd (σ 11) (σ 0 9).toNatClampNeg (σ 0 8))) fun σ_3 =>
    nm (sA σ_3 0 (upd (σ_3 0) 9 ((σ_3 0 9) + (1 : Int32)))) fun σ_4 =>
    some ((σ_4 0 9), σ_4)
def fMo_back (N : Nat) (σ : St) : Option (Int32 × St) :=
  if (σ 0 9) = 0 then
    some ((-2 : Int32), σ)
  else
    nm (sA σ 0 (upd (σ 0) 9 ((σ 0 9) - (1 : Int32)))) fun σ_2 =>
    gI (σ_2 0 9) 2 <|
    nm (sA σ_2 0 (upd (σ_2 0) 8 (σ_2 11 (σ_2 0 9).toNatClampNeg))) fun σ_4 =>
    some ((σ_4 0 9), σ_4)
def fMo_count_67 (N : Nat) (σ : St) (k0 : Int32) : Option (Int32) :=
  some k0
def fMo_count (N : Nat) (p0 : Int32) (σ : St) : Option (Int32) :=
  if p0 = 0 then
    gI (0 : Int32) 2 <|
    fMo_count_67 N σ (σ 4 (0 : Int32).toNatClampNeg)
  else
    if p0 = (1 : Int32) then
      gI (0 : Int32) 2 <|
      fMo_count_67 N σ (σ 5 (0 : Int32).toNatClampNeg)
    else
      if p0 = (2 : Int32) then
        fMo_count_67 N σ (σ 0 0)
      else
        if p0 = (3 : Int32) then
          cl1 (fMo_many N (σ 0 8)) fun r_6 =>
          fMo_count_67 N σ r_6
        else
          if p0 = (4 : Int32) then
            fMo_count_67 N σ (σ 0 9)
          else
            fMo_count_67 N σ (-1 : Int32)
