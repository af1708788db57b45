/-! PRINTED BY wip/p30/gen.py: each method as a function on the map -/
def rmX7_init : Room := { frames := 1, cells := 0, slots := 0, locals := 12 }
def m_X7_init (a0 : Option Nat) (a1 : Int32) (σ : SG) : Option (Unit × SG) :=
  (sNN a0).bind fun _ =>
  (sPutZT a0 [1, 2, 6] 1 (0 : Int32) σ).bind fun σ1 =>
  (sPutIT a0 [1, 2, 6] 2 (0 : Int32) σ1).bind fun σ2 =>
  (sPutIT a0 [1, 2, 6] 0 a1 σ2).bind fun σ3 =>
  some ((), σ3)
def rmX6_init : Room := { frames := 2, cells := 1, slots := 800, locals := 33 }
def m_X6_init_e (lim : Nat) (a0 : Option Nat) (a1 : Int32) (σ : SG) : Option (Unit × SG) :=
  (sRoom lim 0 σ).bind fun _ =>
  (sObj a0 6 σ).bind fun _ =>
  bnd (m_X7_init a0 a1 σ) fun _ σ1 =>
  (sSame σ1.2 (σ.2 + 0)).bind fun _ =>
  bnd (sNewA lim 1 (6 : Int32) σ1) fun x3 σ4 =>
  (sPutR a0 6 3 x3 σ4).bind fun σ6 =>
  (sPutI a0 6 4 (0 : Int32) σ6).bind fun σ7 =>
  (sPutI a0 6 5 (0 : Int32) σ7).bind fun σ8 =>
  (sPutZ a0 6 6 (0 : Int32) σ8).bind fun σ9 =>
  (sPutI a0 6 7 (0 : Int32) σ9).bind fun σ10 =>
  (sPutI a0 6 8 (0 : Int32) σ10).bind fun σ11 =>
  (sPutI a0 6 9 (0 : Int32) σ11).bind fun σ12 =>
  sEnd lim σ12
def m_X6_init (a0 : Option Nat) (a1 : Int32) (σ : SG) : Option (Unit × SG) := m_X6_init_e (σ.2 + 1) a0 a1 σ
def rmX2_init : Room := { frames := 2, cells := 0, slots := 0, locals := 33 }
def m_X2_init (a0 : Option Nat) (a1 : Int32) (σ : SG) : Option (Unit × SG) :=
  (sObj a0 2 σ).bind fun _ =>
  bnd (m_X7_init a0 a1 σ) fun _ σ1 =>
  (sPutI a0 2 3 (0 : Int32) σ1).bind fun σ2 =>
  (sPutI a0 2 4 (2 : Int32) σ2).bind fun σ3 =>
  (sPutZ a0 2 5 (0 : Int32) σ3).bind fun σ4 =>
  some ((), σ4)
def rmX1_init : Room := { frames := 2, cells := 0, slots := 0, locals := 33 }
def m_X1_init (a0 : Option Nat) (a1 : Int32) (σ : SG) : Option (Unit × SG) :=
  (sObj a0 1 σ).bind fun _ =>
  bnd (m_X7_init a0 a1 σ) fun _ σ1 =>
  (sPutI a0 1 3 (0 : Int32) σ1).bind fun σ2 =>
  (sPutI a0 1 4 (0 : Int32) σ2).bind fun σ3 =>
  (sPutI a0 1 5 (0 : Int32) σ3).bind fun σ4 =>
  (sPutZ a0 1 6 (0 : Int32) σ4).bind fun σ5 =>
  some ((), σ5)
def rmX4_init : Room := { frames := 1, cells := 0, slots := 0, locals := 12 }
def m_X4_init (a0 : Option Nat) (σ : SG) : Option (Unit × SG) :=
  (sNN a0).bind fun _ =>
  (sPutZ a0 4 0 (0 : Int32) σ).bind fun σ1 =>
  (sPutI a0 4 1 (0 : Int32) σ1).bind fun σ2 =>
  (sPutI a0 4 2 (0 : Int32) σ2).bind fun σ3 =>
  (sPutI a0 4 3 (0 : Int32) σ3).bind fun σ4 =>
  (sPutI a0 4 4 (-5 : Int32) σ4).bind fun σ5 =>
  (sPutI a0 4 5 (0 : Int32) σ5).bind fun σ6 =>
  (sPutI a0 4 6 (15 : Int32) σ6).bind fun σ7 =>
  some ((), σ7)
def rmX3_init : Room := { frames := 3, cells := 35, slots := 28000, locals := 54 }
def m_X3_init_B177 (lim : Nat) (rec177 : Option Nat → Int32 → SG → Option (Unit × SG)) (v0 : Option Nat) (v1 : Int32) (σ : SG) : Option (Unit × SG) :=
  (sGetR v0 3 3 σ).bind fun x1 =>
  (sLen x1 σ).bind fun x2 =>
  if x2 ≤ v1 then (
    sEnd lim σ
  ) else (
    (sGetR v0 3 3 σ).bind fun x4 =>
    bnd (sNew lim (.inl (4, [.int 0, .int 0, .int 0, .int 0, .int 0, .int 0, .int 0])) σ) fun x5 σ6 =>
    (sRoom lim 0 σ6).bind fun _ =>
    (sObj x5 4 σ6).bind fun _ =>
    bnd (m_X4_init x5 σ6) fun _ σ8 =>
    (sSame σ8.2 (σ6.2 + 0)).bind fun _ =>
    (sAstR x4 v1 x5 σ8).bind fun σ10 =>
    rec177 v0 ((v1 + 1)) σ10
  )
def m_X3_init_L177 (lim : Nat) (n : Nat) : Option Nat → Int32 → SG → Option (Unit × SG) := itF (fun _ _ _ => none) (m_X3_init_B177 lim ) n
def m_X3_init_B146 (lim : Nat) (rec146 : Option Nat → Int32 → SG → Option (Unit × SG)) (v0 : Option Nat) (v1 : Int32) (σ : SG) : Option (Unit × SG) :=
  (sGetR v0 3 2 σ).bind fun x11 =>
  (sLen x11 σ).bind fun x12 =>
  if x12 ≤ v1 then (
    m_X3_init_L177 lim 1000 v0 ((0 : Int32)) σ
  ) else (
    (sGetR v0 3 2 σ).bind fun x14 =>
    bnd (sNew lim (.inl (1, [.int 0, .int 0, .int 0, .int 0, .int 0, .int 0, .int 0])) σ) fun x15 σ16 =>
    (sRoom lim 0 σ16).bind fun _ =>
    (sObj x15 1 σ16).bind fun _ =>
    bnd (m_X1_init x15 v1 σ16) fun _ σ18 =>
    (sSame σ18.2 (σ16.2 + 0)).bind fun _ =>
    (sAstR x14 v1 x15 σ18).bind fun σ20 =>
    rec146 v0 ((v1 + 1)) σ20
  )
def m_X3_init_L146 (lim : Nat) (n : Nat) : Option Nat → Int32 → SG → Option (Unit × SG) := itF (fun _ _ _ => none) (m_X3_init_B146 lim ) n
def m_X3_init_B115 (lim : Nat) (rec115 : Option Nat → Int32 → SG → Option (Unit × SG)) (v0 : Option Nat) (v1 : Int32) (σ : SG) : Option (Unit × SG) :=
  (sGetR v0 3 1 σ).bind fun x21 =>
  (sLen x21 σ).bind fun x22 =>
  if x22 ≤ v1 then (
    m_X3_init_L146 lim 1000 v0 ((0 : Int32)) σ
  ) else (
    (sGetR v0 3 1 σ).bind fun x24 =>
    bnd (sNew lim (.inl (2, [.int 0, .int 0, .int 0, .int 0, .int 0, .int 0])) σ) fun x25 σ26 =>
    (sRoom lim 0 σ26).bind fun _ =>
    (sObj x25 2 σ26).bind fun _ =>
    bnd (m_X2_init x25 v1 σ26) fun _ σ28 =>
    (sSame σ28.2 (σ26.2 + 0)).bind fun _ =>
    (sAstR x24 v1 x25 σ28).bind fun σ30 =>
    rec115 v0 ((v1 + 1)) σ30
  )
def m_X3_init_L115 (lim : Nat) (n : Nat) : Option Nat → Int32 → SG → Option (Unit × SG) := itF (fun _ _ _ => none) (m_X3_init_B115 lim ) n
def m_X3_init_B84 (lim : Nat) (rec84 : Option Nat → Int32 → SG → Option (Unit × SG)) (v0 : Option Nat) (v1 : Int32) (σ : SG) : Option (Unit × SG) :=
  (sGetR v0 3 0 σ).bind fun x31 =>
  (sLen x31 σ).bind fun x32 =>
  if x32 ≤ v1 then (
    m_X3_init_L115 lim 1000 v0 ((0 : Int32)) σ
  ) else (
    (sGetR v0 3 0 σ).bind fun x34 =>
    bnd (sNew lim (.inl (6, [.int 0, .int 0, .int 0, .null, .int 0, .int 0, .int 0, .int 0, .int 0, .int 0])) σ) fun x35 σ36 =>
    (sRoom lim 1 σ36).bind fun _ =>
    (sObj x35 6 σ36).bind fun _ =>
    bnd (m_X6_init x35 v1 σ36) fun _ σ38 =>
    (sSame σ38.2 (σ36.2 + 1)).bind fun _ =>
    (sAstR x34 v1 x35 σ38).bind fun σ40 =>
    rec84 v0 ((v1 + 1)) σ40
  )
def m_X3_init_L84 (lim : Nat) (n : Nat) : Option Nat → Int32 → SG → Option (Unit × SG) := itF (fun _ _ _ => none) (m_X3_init_B84 lim ) n
def m_X3_init_e (lim : Nat) (a0 : Option Nat) (σ : SG) : Option (Unit × SG) :=
  (sNN a0).bind fun _ =>
  bnd (sNewQ lim 7 (5 : Int32) σ) fun x41 σ42 =>
  (sPutR a0 3 0 x41 σ42).bind fun σ44 =>
  bnd (sNewQ lim 4 (4 : Int32) σ44) fun x45 σ46 =>
  (sPutR a0 3 1 x45 σ46).bind fun σ48 =>
  bnd (sNewQ lim 3 (8 : Int32) σ48) fun x49 σ50 =>
  (sPutR a0 3 2 x49 σ50).bind fun σ52 =>
  bnd (sNewQ lim 6 (6 : Int32) σ52) fun x53 σ54 =>
  (sPutR a0 3 3 x53 σ54).bind fun σ56 =>
  bnd (sNewA lim 1 (4 : Int32) σ56) fun x57 σ58 =>
  (sAst x57 1 (0 : Int32) (6 : Int32) σ58).bind fun σ60 =>
  (sAst x57 1 (1 : Int32) (5 : Int32) σ60).bind fun σ61 =>
  (sAst x57 1 (2 : Int32) (4 : Int32) σ61).bind fun σ62 =>
  (sAst x57 1 (3 : Int32) (2 : Int32) σ62).bind fun σ63 =>
  (sPutR a0 3 4 x57 σ63).bind fun σ64 =>
  bnd (sNewA lim 1 (5 : Int32) σ64) fun x65 σ66 =>
  (sPutR a0 3 5 x65 σ66).bind fun σ68 =>
  (sPutI a0 3 6 (0 : Int32) σ68).bind fun σ69 =>
  bnd (sNewA lim 2 (6 : Int32) σ69) fun x70 σ71 =>
  (sPutR a0 3 7 x70 σ71).bind fun σ73 =>
  m_X3_init_L84 lim 1000 a0 ((0 : Int32)) σ73
def m_X3_init (a0 : Option Nat) (σ : SG) : Option (Unit × SG) := m_X3_init_e (σ.2 + 35) a0 σ
def rmX0_init : Room := { frames := 4, cells := 145, slots := 116000, locals := 75 }
def m_X0_init_B19 (lim : Nat) (rec19 : Option Nat → Int32 → SG → Option (Unit × SG)) (v0 : Option Nat) (v1 : Int32) (σ : SG) : Option (Unit × SG) :=
  (sGetR v0 0 0 σ).bind fun x1 =>
  (sLen x1 σ).bind fun x2 =>
  if x2 ≤ v1 then (
    sEnd lim σ
  ) else (
    (sGetR v0 0 0 σ).bind fun x4 =>
    bnd (sNew lim (.inl (3, [.null, .null, .null, .null, .null, .null, .int 0, .null])) σ) fun x5 σ6 =>
    (sRoom lim 35 σ6).bind fun _ =>
    (sObj x5 3 σ6).bind fun _ =>
    bnd (m_X3_init x5 σ6) fun _ σ8 =>
    (sSame σ8.2 (σ6.2 + 35)).bind fun _ =>
    (sAstR x4 v1 x5 σ8).bind fun σ10 =>
    rec19 v0 ((v1 + 1)) σ10
  )
def m_X0_init_L19 (lim : Nat) (n : Nat) : Option Nat → Int32 → SG → Option (Unit × SG) := itF (fun _ _ _ => none) (m_X0_init_B19 lim ) n
def m_X0_init_e (lim : Nat) (a0 : Option Nat) (σ : SG) : Option (Unit × SG) :=
  (sNN a0).bind fun _ =>
  bnd (sNewQ lim 5 (4 : Int32) σ) fun x11 σ12 =>
  (sPutR a0 0 0 x11 σ12).bind fun σ14 =>
  (sPutI a0 0 1 (0 : Int32) σ14).bind fun σ15 =>
  m_X0_init_L19 lim 1000 a0 ((0 : Int32)) σ15
def m_X0_init (a0 : Option Nat) (σ : SG) : Option (Unit × SG) := m_X0_init_e (σ.2 + 145) a0 σ
def rmX0_isEmpty : Room := { frames := 0, cells := 0, slots := 0, locals := 0 }
def m_X0_isEmpty (a0 : Option Nat) (σ : SG) : Option (Int32 × SG) :=
  (sGetI a0 0 1 σ).bind fun x1 =>
  if x1 = 0 then (
    chkZ (1 : Int32) σ
  ) else (
    chkZ (0 : Int32) σ
  )
def rmX0_dropOldest : Room := { frames := 0, cells := 0, slots := 0, locals := 0 }
def m_X0_dropOldest_B9 (rec9 : Option Nat → Option Nat → Int32 → SG → Option (Unit × SG)) (v0 : Option Nat) (v1 : Option Nat) (v2 : Int32) (σ : SG) : Option (Unit × SG) :=
  (sGetR v0 0 0 σ).bind fun x1 =>
  (sLen x1 σ).bind fun x2 =>
  if x2 ≤ v2 then (
    (sGetR v0 0 0 σ).bind fun x4 =>
    (sGetR v0 0 0 σ).bind fun x5 =>
    (sLen x5 σ).bind fun x6 =>
    (sAstR x4 (x6 - (1 : Int32)) v1 σ).bind fun σ7 =>
    (sGetI v0 0 1 σ7).bind fun x8 =>
    (sPutI v0 0 1 (x8 - (1 : Int32)) σ7).bind fun σ9 =>
    some ((), σ9)
  ) else (
    (sGetR v0 0 0 σ).bind fun x10 =>
    (sGetR v0 0 0 σ).bind fun x11 =>
    (sAldR x11 v2 σ).bind fun x12 =>
    (sAstR x10 (v2 - (1 : Int32)) x12 σ).bind fun σ13 =>
    rec9 v0 v1 ((v2 + 1)) σ13
  )
def m_X0_dropOldest_L9 (n : Nat) : Option Nat → Option Nat → Int32 → SG → Option (Unit × SG) := itF (fun _ _ _ _ => none) (m_X0_dropOldest_B9 ) n
def m_X0_dropOldest (a0 : Option Nat) (σ : SG) : Option (Unit × SG) :=
  (sGetR a0 0 0 σ).bind fun x14 =>
  (sAldR x14 (0 : Int32) σ).bind fun x15 =>
  m_X0_dropOldest_L9 1000 a0 x15 ((1 : Int32)) σ
def rmX7_copyThing : Room := { frames := 0, cells := 0, slots := 0, locals := 0 }
def m_X7_copyThing (a0 : Option Nat) (a1 : Option Nat) (σ : SG) : Option (Unit × SG) :=
  (sGetIT a1 [1, 2, 6] 1 σ).bind fun x1 =>
  (sPutZT a0 [1, 2, 6] 1 x1 σ).bind fun σ2 =>
  (sGetIT a1 [1, 2, 6] 2 σ2).bind fun x3 =>
  (sPutIT a0 [1, 2, 6] 2 x3 σ2).bind fun σ4 =>
  some ((), σ4)
def rmX8_copyRow : Room := { frames := 0, cells := 0, slots := 0, locals := 0 }
def m_X8_copyRow_B2 (rec2 : Option Nat → Option Nat → Int32 → SG → Option (Unit × SG)) (v0 : Option Nat) (v1 : Option Nat) (v2 : Int32) (σ : SG) : Option (Unit × SG) :=
  (sLen v0 σ).bind fun x1 =>
  if x1 ≤ v2 then (
    some ((), σ)
  ) else (
    (sLen v1 σ).bind fun x3 =>
    if x3 ≤ v2 then (
      some ((), σ)
    ) else (
      (sAld v0 1 v2 σ).bind fun x5 =>
      (sAst v1 1 v2 x5 σ).bind fun σ6 =>
      rec2 v0 v1 ((v2 + 1)) σ6
    )
  )
def m_X8_copyRow_L2 (n : Nat) : Option Nat → Option Nat → Int32 → SG → Option (Unit × SG) := itF (fun _ _ _ _ => none) (m_X8_copyRow_B2 ) n
def m_X8_copyRow (a0 : Option Nat) (a1 : Option Nat) (σ : SG) : Option (Unit × SG) :=
  m_X8_copyRow_L2 1000 a0 a1 ((0 : Int32)) σ
def rmX6_copyFrom : Room := { frames := 1, cells := 0, slots := 0, locals := 22 }
def m_X6_copyFrom (a0 : Option Nat) (a1 : Option Nat) (σ : SG) : Option (Unit × SG) :=
  (sObj a0 6 σ).bind fun _ =>
  bnd (m_X7_copyThing a0 a1 σ) fun _ σ1 =>
  (sGetR a1 6 3 σ1).bind fun x2 =>
  (sGetR a0 6 3 σ1).bind fun x3 =>
  bnd (m_X8_copyRow x2 x3 σ1) fun _ σ4 =>
  (sGetI a1 6 4 σ4).bind fun x5 =>
  (sPutI a0 6 4 x5 σ4).bind fun σ6 =>
  (sGetI a1 6 5 σ6).bind fun x7 =>
  (sPutI a0 6 5 x7 σ6).bind fun σ8 =>
  (sGetI a1 6 6 σ8).bind fun x9 =>
  (sPutZ a0 6 6 x9 σ8).bind fun σ10 =>
  (sGetI a1 6 7 σ10).bind fun x11 =>
  (sPutI a0 6 7 x11 σ10).bind fun σ12 =>
  (sGetI a1 6 8 σ12).bind fun x13 =>
  (sPutI a0 6 8 x13 σ12).bind fun σ14 =>
  (sGetI a1 6 9 σ14).bind fun x15 =>
  (sPutI a0 6 9 x15 σ14).bind fun σ16 =>
  some ((), σ16)
def rmX2_copyFrom : Room := { frames := 1, cells := 0, slots := 0, locals := 21 }
def m_X2_copyFrom (a0 : Option Nat) (a1 : Option Nat) (σ : SG) : Option (Unit × SG) :=
  (sObj a0 2 σ).bind fun _ =>
  bnd (m_X7_copyThing a0 a1 σ) fun _ σ1 =>
  (sGetI a1 2 3 σ1).bind fun x2 =>
  (sPutI a0 2 3 x2 σ1).bind fun σ3 =>
  (sGetI a1 2 4 σ3).bind fun x4 =>
  (sPutI a0 2 4 x4 σ3).bind fun σ5 =>
  (sGetI a1 2 5 σ5).bind fun x6 =>
  (sPutZ a0 2 5 x6 σ5).bind fun σ7 =>
  some ((), σ7)
def rmX1_copyFrom : Room := { frames := 1, cells := 0, slots := 0, locals := 21 }
def m_X1_copyFrom (a0 : Option Nat) (a1 : Option Nat) (σ : SG) : Option (Unit × SG) :=
  (sObj a0 1 σ).bind fun _ =>
  bnd (m_X7_copyThing a0 a1 σ) fun _ σ1 =>
  (sGetI a1 1 3 σ1).bind fun x2 =>
  (sPutI a0 1 3 x2 σ1).bind fun σ3 =>
  (sGetI a1 1 4 σ3).bind fun x4 =>
  (sPutI a0 1 4 x4 σ3).bind fun σ5 =>
  (sGetI a1 1 5 σ5).bind fun x6 =>
  (sPutI a0 1 5 x6 σ5).bind fun σ7 =>
  (sGetI a1 1 6 σ7).bind fun x8 =>
  (sPutZ a0 1 6 x8 σ7).bind fun σ9 =>
  some ((), σ9)
def rmX4_copyFrom : Room := { frames := 0, cells := 0, slots := 0, locals := 0 }
def m_X4_copyFrom (a0 : Option Nat) (a1 : Option Nat) (σ : SG) : Option (Unit × SG) :=
  (sGetI a1 4 0 σ).bind fun x1 =>
  (sPutZ a0 4 0 x1 σ).bind fun σ2 =>
  (sGetI a1 4 1 σ2).bind fun x3 =>
  (sPutI a0 4 1 x3 σ2).bind fun σ4 =>
  (sGetI a1 4 2 σ4).bind fun x5 =>
  (sPutI a0 4 2 x5 σ4).bind fun σ6 =>
  (sGetI a1 4 3 σ6).bind fun x7 =>
  (sPutI a0 4 3 x7 σ6).bind fun σ8 =>
  (sGetI a1 4 4 σ8).bind fun x9 =>
  (sPutI a0 4 4 x9 σ8).bind fun σ10 =>
  (sGetI a1 4 5 σ10).bind fun x11 =>
  (sPutI a0 4 5 x11 σ10).bind fun σ12 =>
  (sGetI a1 4 6 σ12).bind fun x13 =>
  (sPutI a0 4 6 x13 σ12).bind fun σ14 =>
  some ((), σ14)
def rmX3_copyFrom : Room := { frames := 2, cells := 0, slots := 0, locals := 43 }
def m_X3_copyFrom_b164 (v0 : Option Nat) (v1 : Option Nat) (σ : SG) : Option (Unit × SG) :=
  (sGetR v1 3 4 σ).bind fun x1 =>
  (sGetR v0 3 4 σ).bind fun x2 =>
  bnd (m_X8_copyRow x1 x2 σ) fun _ σ3 =>
  (sGetR v1 3 5 σ3).bind fun x4 =>
  (sGetR v0 3 5 σ3).bind fun x5 =>
  bnd (m_X8_copyRow x4 x5 σ3) fun _ σ6 =>
  (sGetI v1 3 6 σ6).bind fun x7 =>
  (sPutI v0 3 6 x7 σ6).bind fun σ8 =>
  some ((), σ8)
def m_X3_copyFrom_B125 (rec125 : Option Nat → Option Nat → Int32 → SG → Option (Unit × SG)) (v0 : Option Nat) (v1 : Option Nat) (v2 : Int32) (σ : SG) : Option (Unit × SG) :=
  (sGetR v0 3 3 σ).bind fun x9 =>
  (sLen x9 σ).bind fun x10 =>
  if x10 ≤ v2 then (
    m_X3_copyFrom_b164 v0 v1 σ
  ) else (
    (sGetR v1 3 3 σ).bind fun x12 =>
    (sLen x12 σ).bind fun x13 =>
    if x13 ≤ v2 then (
      m_X3_copyFrom_b164 v0 v1 σ
    ) else (
      (sGetR v0 3 3 σ).bind fun x15 =>
      (sAldR x15 v2 σ).bind fun x16 =>
      (sGetR v1 3 3 σ).bind fun x17 =>
      (sAldR x17 v2 σ).bind fun x18 =>
      (sObj x16 4 σ).bind fun _ =>
      bnd (m_X4_copyFrom x16 x18 σ) fun _ σ19 =>
      rec125 v0 v1 ((v2 + 1)) σ19
    )
  )
def m_X3_copyFrom_L125 (n : Nat) : Option Nat → Option Nat → Int32 → SG → Option (Unit × SG) := itF (fun _ _ _ _ => none) (m_X3_copyFrom_B125 ) n
def m_X3_copyFrom_b123 (v0 : Option Nat) (v1 : Option Nat) (σ : SG) : Option (Unit × SG) :=
  m_X3_copyFrom_L125 1000 v0 v1 ((0 : Int32)) σ
def m_X3_copyFrom_B84 (rec84 : Option Nat → Option Nat → Int32 → SG → Option (Unit × SG)) (v0 : Option Nat) (v1 : Option Nat) (v2 : Int32) (σ : SG) : Option (Unit × SG) :=
  (sGetR v0 3 2 σ).bind fun x20 =>
  (sLen x20 σ).bind fun x21 =>
  if x21 ≤ v2 then (
    m_X3_copyFrom_b123 v0 v1 σ
  ) else (
    (sGetR v1 3 2 σ).bind fun x23 =>
    (sLen x23 σ).bind fun x24 =>
    if x24 ≤ v2 then (
      m_X3_copyFrom_b123 v0 v1 σ
    ) else (
      (sGetR v0 3 2 σ).bind fun x26 =>
      (sAldR x26 v2 σ).bind fun x27 =>
      (sGetR v1 3 2 σ).bind fun x28 =>
      (sAldR x28 v2 σ).bind fun x29 =>
      (sObj x27 1 σ).bind fun _ =>
      bnd (m_X1_copyFrom x27 x29 σ) fun _ σ30 =>
      rec84 v0 v1 ((v2 + 1)) σ30
    )
  )
def m_X3_copyFrom_L84 (n : Nat) : Option Nat → Option Nat → Int32 → SG → Option (Unit × SG) := itF (fun _ _ _ _ => none) (m_X3_copyFrom_B84 ) n
def m_X3_copyFrom_b82 (v0 : Option Nat) (v1 : Option Nat) (σ : SG) : Option (Unit × SG) :=
  m_X3_copyFrom_L84 1000 v0 v1 ((0 : Int32)) σ
def m_X3_copyFrom_B43 (rec43 : Option Nat → Option Nat → Int32 → SG → Option (Unit × SG)) (v0 : Option Nat) (v1 : Option Nat) (v2 : Int32) (σ : SG) : Option (Unit × SG) :=
  (sGetR v0 3 1 σ).bind fun x31 =>
  (sLen x31 σ).bind fun x32 =>
  if x32 ≤ v2 then (
    m_X3_copyFrom_b82 v0 v1 σ
  ) else (
    (sGetR v1 3 1 σ).bind fun x34 =>
    (sLen x34 σ).bind fun x35 =>
    if x35 ≤ v2 then (
      m_X3_copyFrom_b82 v0 v1 σ
    ) else (
      (sGetR v0 3 1 σ).bind fun x37 =>
      (sAldR x37 v2 σ).bind fun x38 =>
      (sGetR v1 3 1 σ).bind fun x39 =>
      (sAldR x39 v2 σ).bind fun x40 =>
      (sObj x38 2 σ).bind fun _ =>
      bnd (m_X2_copyFrom x38 x40 σ) fun _ σ41 =>
      rec43 v0 v1 ((v2 + 1)) σ41
    )
  )
def m_X3_copyFrom_L43 (n : Nat) : Option Nat → Option Nat → Int32 → SG → Option (Unit × SG) := itF (fun _ _ _ _ => none) (m_X3_copyFrom_B43 ) n
def m_X3_copyFrom_b41 (v0 : Option Nat) (v1 : Option Nat) (σ : SG) : Option (Unit × SG) :=
  m_X3_copyFrom_L43 1000 v0 v1 ((0 : Int32)) σ
def m_X3_copyFrom_B2 (rec2 : Option Nat → Option Nat → Int32 → SG → Option (Unit × SG)) (v0 : Option Nat) (v1 : Option Nat) (v2 : Int32) (σ : SG) : Option (Unit × SG) :=
  (sGetR v0 3 0 σ).bind fun x42 =>
  (sLen x42 σ).bind fun x43 =>
  if x43 ≤ v2 then (
    m_X3_copyFrom_b41 v0 v1 σ
  ) else (
    (sGetR v1 3 0 σ).bind fun x45 =>
    (sLen x45 σ).bind fun x46 =>
    if x46 ≤ v2 then (
      m_X3_copyFrom_b41 v0 v1 σ
    ) else (
      (sGetR v0 3 0 σ).bind fun x48 =>
      (sAldR x48 v2 σ).bind fun x49 =>
      (sGetR v1 3 0 σ).bind fun x50 =>
      (sAldR x50 v2 σ).bind fun x51 =>
      (sObj x49 6 σ).bind fun _ =>
      bnd (m_X6_copyFrom x49 x51 σ) fun _ σ52 =>
      rec2 v0 v1 ((v2 + 1)) σ52
    )
  )
def m_X3_copyFrom_L2 (n : Nat) : Option Nat → Option Nat → Int32 → SG → Option (Unit × SG) := itF (fun _ _ _ _ => none) (m_X3_copyFrom_B2 ) n
def m_X3_copyFrom (a0 : Option Nat) (a1 : Option Nat) (σ : SG) : Option (Unit × SG) :=
  m_X3_copyFrom_L2 1000 a0 a1 ((0 : Int32)) σ
def rmX0_keep : Room := { frames := 3, cells := 0, slots := 0, locals := 65 }
def m_X0_keep_b16 (v0 : Option Nat) (v1 : Option Nat) (σ : SG) : Option (Unit × SG) :=
  (sGetI v0 0 1 σ).bind fun x1 =>
  if x1 < 0 then (
    some ((), σ)
  ) else (
    (sGetI v0 0 1 σ).bind fun x3 =>
    (sGetR v0 0 0 σ).bind fun x4 =>
    (sLen x4 σ).bind fun x5 =>
    if x5 ≤ x3 then (
      some ((), σ)
    ) else (
      (sGetR v0 0 0 σ).bind fun x7 =>
      (sGetI v0 0 1 σ).bind fun x8 =>
      (sAldR x7 x8 σ).bind fun x9 =>
      (sObj x9 3 σ).bind fun _ =>
      bnd (m_X3_copyFrom x9 v1 σ) fun _ σ10 =>
      (sGetI v0 0 1 σ10).bind fun x11 =>
      (sPutI v0 0 1 (x11 + (1 : Int32)) σ10).bind fun σ12 =>
      some ((), σ12)
    )
  )
def m_X0_keep (a0 : Option Nat) (a1 : Option Nat) (σ : SG) : Option (Unit × SG) :=
  (sGetI a0 0 1 σ).bind fun x13 =>
  (sGetR a0 0 0 σ).bind fun x14 =>
  (sLen x14 σ).bind fun x15 =>
  if x13 < x15 then (
    m_X0_keep_b16 a0 a1 σ
  ) else (
    (sObj a0 0 σ).bind fun _ =>
    bnd (m_X0_dropOldest a0 σ) fun _ σ17 =>
    m_X0_keep_b16 a0 a1 σ17
  )
def rmX0_takeBack : Room := { frames := 3, cells := 0, slots := 0, locals := 65 }
def m_X0_takeBack (a0 : Option Nat) (a1 : Option Nat) (σ : SG) : Option (Unit × SG) :=
  (sGetI a0 0 1 σ).bind fun x1 =>
  if x1 ≤ 0 then (
    some ((), σ)
  ) else (
    (sGetI a0 0 1 σ).bind fun x3 =>
    (sGetR a0 0 0 σ).bind fun x4 =>
    (sLen x4 σ).bind fun x5 =>
    if x5 < x3 then (
      some ((), σ)
    ) else (
      (sGetI a0 0 1 σ).bind fun x7 =>
      (sPutI a0 0 1 (x7 - (1 : Int32)) σ).bind fun σ8 =>
      (sGetR a0 0 0 σ8).bind fun x9 =>
      (sGetI a0 0 1 σ8).bind fun x10 =>
      (sAldR x9 x10 σ8).bind fun x11 =>
      (sObj a1 3 σ8).bind fun _ =>
      bnd (m_X3_copyFrom a1 x11 σ8) fun _ σ12 =>
      some ((), σ12)
    )
  )
def rmX1_put : Room := { frames := 0, cells := 0, slots := 0, locals := 0 }
def m_X1_put (a0 : Option Nat) (a1 : Int32) (a2 : Int32) (a3 : Int32) (σ : SG) : Option (Unit × SG) :=
  (sPutZ a0 1 1 (1 : Int32) σ).bind fun σ1 =>
  (sPutI a0 1 2 a1 σ1).bind fun σ2 =>
  (sPutI a0 1 3 a2 σ2).bind fun σ3 =>
  (sPutI a0 1 4 a3 σ3).bind fun σ4 =>
  (sPutI a0 1 5 (0 : Int32) σ4).bind fun σ5 =>
  (sPutZ a0 1 6 (0 : Int32) σ5).bind fun σ6 =>
  some ((), σ6)
def rmX1_isCalledBy : Room := { frames := 0, cells := 0, slots := 0, locals := 0 }
def m_X1_isCalledBy (a0 : Option Nat) (a1 : Int32) (a2 : Int32) (σ : SG) : Option (Int32 × SG) :=
  (sGetI a0 1 1 σ).bind fun x1 =>
  if x1 = 0 then (
    chkZ (0 : Int32) σ
  ) else (
    (sGetI a0 1 2 σ).bind fun x3 =>
    if x3 = a1 then (
      (sGetI a0 1 3 σ).bind fun x5 =>
      if x5 = a2 then (
        chkZ (1 : Int32) σ
      ) else (
        chkZ (0 : Int32) σ
      )
    ) else (
      chkZ (0 : Int32) σ
    )
  )
def rmX1_levelBy : Room := { frames := 0, cells := 0, slots := 0, locals := 0 }
def m_X1_levelBy (a0 : Option Nat) (a1 : Int32) (σ : SG) : Option (Int32 × SG) :=
  swK a1 [
    (4, (
      some ((9 : Int32), σ)
    )),
    (5, (
      some ((0 : Int32), σ)
    )),
    (6, (
      (sGetI a0 1 5 σ).bind fun x1 =>
      if (9 : Int32) ≤ x1 then (
        some ((9 : Int32), σ)
      ) else (
        (sGetI a0 1 5 σ).bind fun x3 =>
        some ((x3 + (1 : Int32)), σ)
      )
    ))
  ] (
    (sGetI a0 1 5 σ).bind fun x4 =>
    some (x4, σ)
  )
def rmX1_obey : Room := { frames := 1, cells := 0, slots := 0, locals := 21 }
def m_X1_obey_b30 (s0 : Option Nat) (s1 : Int32) (σ : SG) : Option (Unit × SG) :=
  (sPutZ s0 1 6 s1 σ).bind fun σ1 =>
  some ((), σ1)
def m_X1_obey_b29 (s0 : Option Nat) (σ : SG) : Option (Unit × SG) :=
  m_X1_obey_b30 s0 ((0 : Int32)) σ
def m_X1_obey_b25 (s0 : Option Nat) (σ : SG) : Option (Unit × SG) :=
  m_X1_obey_b30 s0 ((1 : Int32)) σ
def m_X1_obey (a0 : Option Nat) (a1 : Int32) (a2 : Int32) (σ : SG) : Option (Unit × SG) :=
  if (4 : Int32) ≤ a1 then (
    if a1 = (7 : Int32) then (
      (sPutI a0 1 5 (0 : Int32) σ).bind fun σ4 =>
      some ((), σ4)
    ) else (
      (sGetI a0 1 6 σ).bind fun x5 =>
      if x5 = 0 then (
        some ((), σ)
      ) else (
        (sObj a0 1 σ).bind fun _ =>
        bnd (m_X1_levelBy a0 a1 σ) fun r7 σ8 =>
        (sPutI a0 1 5 r7 σ8).bind fun σ9 =>
        some ((), σ9)
      )
    )
  ) else (
    (sGetI a0 1 4 σ).bind fun x10 =>
    if x10 = a1 then (
      m_X1_obey_b25 a0 σ
    ) else (
      (sGetI a0 1 6 σ).bind fun x12 =>
      if x12 = 0 then (
        m_X1_obey_b29 a0 σ
      ) else (
        if a2 = 0 then (
          m_X1_obey_b29 a0 σ
        ) else (
          m_X1_obey_b25 a0 σ
        )
      )
    )
  )
def rmX2_put : Room := { frames := 0, cells := 0, slots := 0, locals := 0 }
def m_X2_put (a0 : Option Nat) (a1 : Int32) (a2 : Int32) (a3 : Int32) (σ : SG) : Option (Unit × SG) :=
  (sPutZ a0 2 1 (1 : Int32) σ).bind fun σ1 =>
  (sPutI a0 2 2 a1 σ1).bind fun σ2 =>
  (sPutI a0 2 3 a2 σ2).bind fun σ3 =>
  (sPutI a0 2 4 a3 σ3).bind fun σ4 =>
  (sPutZ a0 2 5 (1 : Int32) σ4).bind fun σ5 =>
  some ((), σ5)
def rmX2_makesNoiseAt : Room := { frames := 0, cells := 0, slots := 0, locals := 0 }
def m_X2_makesNoiseAt (a0 : Option Nat) (a1 : Int32) (σ : SG) : Option (Int32 × SG) :=
  (sGetI a0 2 1 σ).bind fun x1 =>
  if x1 = 0 then (
    chkZ (0 : Int32) σ
  ) else (
    (sGetI a0 2 5 σ).bind fun x3 =>
    if x3 = 0 then (
      chkZ (0 : Int32) σ
    ) else (
      (sGetI a0 2 4 σ).bind fun x5 =>
      if x5 ≤ 0 then (
        chkZ (0 : Int32) σ
      ) else (
        (sGetI a0 2 4 σ).bind fun x7 =>
        if x7 = 0 then none else
        if (a1 - a1 / x7 * x7) = 0 then (
          chkZ (1 : Int32) σ
        ) else (
          chkZ (0 : Int32) σ
        )
      )
    )
  )
def rmX3_thingsOf : Room := { frames := 0, cells := 0, slots := 0, locals := 0 }
def m_X3_thingsOf (a0 : Option Nat) (a1 : Int32) (σ : SG) : Option (Option Nat × SG) :=
  swK a1 [
    (0, (
      (sGetR a0 3 0 σ).bind fun x1 =>
      some (x1, σ)
    )),
    (1, (
      (sGetR a0 3 1 σ).bind fun x2 =>
      some (x2, σ)
    )),
    (2, (
      (sGetR a0 3 2 σ).bind fun x3 =>
      some (x3, σ)
    ))
  ] (
    some (none, σ)
  )
def rmX8_firstFree : Room := { frames := 0, cells := 0, slots := 0, locals := 0 }
def m_X8_firstFree_B7 (rec7 : Option Nat → Int32 → Int32 → SG → Option (Option Nat × SG)) (v1 : Option Nat) (v2 : Int32) (v3 : Int32) (σ : SG) : Option (Option Nat × SG) :=
  if v2 ≤ v3 then (
    some (none, σ)
  ) else (
    (sAldR v1 v3 σ).bind fun x2 =>
    (sGetIT x2 [1, 2, 6] 1 σ).bind fun x3 =>
    if x3 = 0 then (
      some (x2, σ)
    ) else (
      rec7 v1 v2 ((v3 + 1)) σ
    )
  )
def m_X8_firstFree_L7 (n : Nat) : Option Nat → Int32 → Int32 → SG → Option (Option Nat × SG) := itF (fun _ _ _ _ => none) (m_X8_firstFree_B7 ) n
def m_X8_firstFree (a0 : Option Nat) (σ : SG) : Option (Option Nat × SG) :=
  (sLen a0 σ).bind fun x5 =>
  m_X8_firstFree_L7 1000 a0 x5 ((0 : Int32)) σ
def rmX3_freeSender : Room := { frames := 1, cells := 0, slots := 0, locals := 24 }
def m_X3_freeSender (a0 : Option Nat) (σ : SG) : Option (Option Nat × SG) :=
  (sGetR a0 3 0 σ).bind fun x1 =>
  bnd (m_X8_firstFree x1 σ) fun r2 σ3 =>
  (sInst r2 6 σ3).bind fun x4 =>
  if x4 = 0 then (
    some (none, σ3)
  ) else (
    (sCast r2 6 σ3).bind fun _ =>
    some (r2, σ3)
  )
def rmX8_presentAt : Room := { frames := 0, cells := 0, slots := 0, locals := 0 }
def m_X8_presentAt_b10 (σ : SG) : Option (Option Nat × SG) :=
  some (none, σ)
def m_X8_presentAt (a0 : Option Nat) (a1 : Int32) (σ : SG) : Option (Option Nat × SG) :=
  if a1 < 0 then (
    m_X8_presentAt_b10 σ
  ) else (
    (sLen a0 σ).bind fun x2 =>
    if a1 < x2 then (
      (sAldR a0 a1 σ).bind fun x4 =>
      (sGetIT x4 [1, 2, 6] 1 σ).bind fun x5 =>
      if x5 = 0 then (
        some (none, σ)
      ) else (
        (sAldR a0 a1 σ).bind fun x7 =>
        some (x7, σ)
      )
    ) else (
      m_X8_presentAt_b10 σ
    )
  )
def rmX3_senderAt : Room := { frames := 1, cells := 0, slots := 0, locals := 21 }
def m_X3_senderAt (a0 : Option Nat) (a1 : Int32) (σ : SG) : Option (Option Nat × SG) :=
  (sGetR a0 3 0 σ).bind fun x1 =>
  bnd (m_X8_presentAt x1 a1 σ) fun r2 σ3 =>
  (sInst r2 6 σ3).bind fun x4 =>
  if x4 = 0 then (
    some (none, σ3)
  ) else (
    (sCast r2 6 σ3).bind fun _ =>
    some (r2, σ3)
  )
def rmX3_freeMachine : Room := { frames := 1, cells := 0, slots := 0, locals := 24 }
def m_X3_freeMachine (a0 : Option Nat) (σ : SG) : Option (Option Nat × SG) :=
  (sGetR a0 3 1 σ).bind fun x1 =>
  bnd (m_X8_firstFree x1 σ) fun r2 σ3 =>
  (sInst r2 2 σ3).bind fun x4 =>
  if x4 = 0 then (
    some (none, σ3)
  ) else (
    (sCast r2 2 σ3).bind fun _ =>
    some (r2, σ3)
  )
def rmX3_machineAt : Room := { frames := 1, cells := 0, slots := 0, locals := 21 }
def m_X3_machineAt (a0 : Option Nat) (a1 : Int32) (σ : SG) : Option (Option Nat × SG) :=
  (sGetR a0 3 1 σ).bind fun x1 =>
  bnd (m_X8_presentAt x1 a1 σ) fun r2 σ3 =>
  (sInst r2 2 σ3).bind fun x4 =>
  if x4 = 0 then (
    some (none, σ3)
  ) else (
    (sCast r2 2 σ3).bind fun _ =>
    some (r2, σ3)
  )
def rmX3_freeLamp : Room := { frames := 1, cells := 0, slots := 0, locals := 24 }
def m_X3_freeLamp (a0 : Option Nat) (σ : SG) : Option (Option Nat × SG) :=
  (sGetR a0 3 2 σ).bind fun x1 =>
  bnd (m_X8_firstFree x1 σ) fun r2 σ3 =>
  (sInst r2 1 σ3).bind fun x4 =>
  if x4 = 0 then (
    some (none, σ3)
  ) else (
    (sCast r2 1 σ3).bind fun _ =>
    some (r2, σ3)
  )
def rmX3_lampAt : Room := { frames := 1, cells := 0, slots := 0, locals := 21 }
def m_X3_lampAt (a0 : Option Nat) (a1 : Int32) (σ : SG) : Option (Option Nat × SG) :=
  (sGetR a0 3 2 σ).bind fun x1 =>
  bnd (m_X8_presentAt x1 a1 σ) fun r2 σ3 =>
  (sInst r2 1 σ3).bind fun x4 =>
  if x4 = 0 then (
    some (none, σ3)
  ) else (
    (sCast r2 1 σ3).bind fun _ =>
    some (r2, σ3)
  )
def rmX6_isSpeaking : Room := { frames := 0, cells := 0, slots := 0, locals := 0 }
def m_X6_isSpeaking (a0 : Option Nat) (σ : SG) : Option (Int32 × SG) :=
  (sGetI a0 6 1 σ).bind fun x1 =>
  if x1 = 0 then (
    chkZ (0 : Int32) σ
  ) else (
    (sGetI a0 6 6 σ).bind fun x3 =>
    if x3 = 0 then (
      chkZ (0 : Int32) σ
    ) else (
      chkZ (1 : Int32) σ
    )
  )
def rmX8_asNumber : Room := { frames := 0, cells := 0, slots := 0, locals := 0 }
def m_X8_asNumber (a0 : Int32) (σ : SG) : Option (Int32 × SG) :=
  if a0 = 0 then (
    some ((0 : Int32), σ)
  ) else (
    some ((1 : Int32), σ)
  )
def rmX3_speakingSenders : Room := { frames := 1, cells := 0, slots := 0, locals := 20 }
def m_X3_speakingSenders_B13 (rec13 : Int32 → Option Nat → Int32 → Int32 → SG → Option (Int32 × SG)) (v1 : Int32) (v2 : Option Nat) (v3 : Int32) (v4 : Int32) (σ : SG) : Option (Int32 × SG) :=
  if v3 ≤ v4 then (
    some (v1, σ)
  ) else (
    (sAldR v2 v4 σ).bind fun x2 =>
    (sObj x2 6 σ).bind fun _ =>
    bnd (m_X6_isSpeaking x2 σ) fun r3 σ4 =>
    bnd (m_X8_asNumber r3 σ4) fun r5 σ6 =>
    rec13 ((v1 + r5)) v2 v3 ((v4 + 1)) σ6
  )
def m_X3_speakingSenders_L13 (n : Nat) : Int32 → Option Nat → Int32 → Int32 → SG → Option (Int32 × SG) := itF (fun _ _ _ _ _ => none) (m_X3_speakingSenders_B13 ) n
def m_X3_speakingSenders (a0 : Option Nat) (σ : SG) : Option (Int32 × SG) :=
  (sGetR a0 3 0 σ).bind fun x7 =>
  (sLen x7 σ).bind fun x8 =>
  m_X3_speakingSenders_L13 1000 ((0 : Int32)) x7 x8 ((0 : Int32)) σ
def rmX3_queuedWords : Room := { frames := 0, cells := 0, slots := 0, locals := 0 }
def m_X3_queuedWords_b41 (rec13 : Int32 → Option Nat → Int32 → Int32 → SG → Option (Int32 × SG)) (v1 : Int32) (v2 : Option Nat) (v3 : Int32) (v4 : Int32) (σ : SG) : Option (Int32 × SG) :=
  rec13 v1 v2 v3 ((v4 + 1)) σ
def m_X3_queuedWords_B13 (rec13 : Int32 → Option Nat → Int32 → Int32 → SG → Option (Int32 × SG)) (v1 : Int32) (v2 : Option Nat) (v3 : Int32) (v4 : Int32) (σ : SG) : Option (Int32 × SG) :=
  if v3 ≤ v4 then (
    some (v1, σ)
  ) else (
    (sAldR v2 v4 σ).bind fun x2 =>
    (sGetI x2 6 1 σ).bind fun x3 =>
    if x3 = 0 then (
      m_X3_queuedWords_b41 rec13 v1 v2 v3 v4 σ
    ) else (
      (sGetI x2 6 4 σ).bind fun x5 =>
      m_X3_queuedWords_b41 rec13 ((v1 + x5)) v2 v3 v4 σ
    )
  )
def m_X3_queuedWords_L13 (n : Nat) : Int32 → Option Nat → Int32 → Int32 → SG → Option (Int32 × SG) := itF (fun _ _ _ _ _ => none) (m_X3_queuedWords_B13 ) n
def m_X3_queuedWords (a0 : Option Nat) (σ : SG) : Option (Int32 × SG) :=
  (sGetR a0 3 0 σ).bind fun x6 =>
  (sLen x6 σ).bind fun x7 =>
  m_X3_queuedWords_L13 1000 ((0 : Int32)) x6 x7 ((0 : Int32)) σ
def rmX3_litLamps : Room := { frames := 1, cells := 0, slots := 0, locals := 20 }
def m_X3_litLamps_b47 (rec13 : Int32 → Option Nat → Int32 → Int32 → SG → Option (Int32 × SG)) (v2 : Option Nat) (v3 : Int32) (v4 : Int32) (s0 : Int32) (s1 : Int32) (σ : SG) : Option (Int32 × SG) :=
  bnd (m_X8_asNumber s1 σ) fun r1 σ2 =>
  rec13 ((s0 + r1)) v2 v3 ((v4 + 1)) σ2
def m_X3_litLamps_b46 (rec13 : Int32 → Option Nat → Int32 → Int32 → SG → Option (Int32 × SG)) (v2 : Option Nat) (v3 : Int32) (v4 : Int32) (s0 : Int32) (σ : SG) : Option (Int32 × SG) :=
  m_X3_litLamps_b47 rec13 v2 v3 v4 s0 ((0 : Int32)) σ
def m_X3_litLamps_B13 (rec13 : Int32 → Option Nat → Int32 → Int32 → SG → Option (Int32 × SG)) (v1 : Int32) (v2 : Option Nat) (v3 : Int32) (v4 : Int32) (σ : SG) : Option (Int32 × SG) :=
  if v3 ≤ v4 then (
    some (v1, σ)
  ) else (
    (sAldR v2 v4 σ).bind fun x4 =>
    (sGetI x4 1 1 σ).bind fun x5 =>
    if x5 = 0 then (
      m_X3_litLamps_b46 rec13 v2 v3 v4 v1 σ
    ) else (
      (sGetI x4 1 5 σ).bind fun x7 =>
      if x7 ≤ 0 then (
        m_X3_litLamps_b46 rec13 v2 v3 v4 v1 σ
      ) else (
        m_X3_litLamps_b47 rec13 v2 v3 v4 v1 ((1 : Int32)) σ
      )
    )
  )
def m_X3_litLamps_L13 (n : Nat) : Int32 → Option Nat → Int32 → Int32 → SG → Option (Int32 × SG) := itF (fun _ _ _ _ _ => none) (m_X3_litLamps_B13 ) n
def m_X3_litLamps (a0 : Option Nat) (σ : SG) : Option (Int32 × SG) :=
  (sGetR a0 3 2 σ).bind fun x9 =>
  (sLen x9 σ).bind fun x10 =>
  m_X3_litLamps_L13 1000 ((0 : Int32)) x9 x10 ((0 : Int32)) σ
def rmX8_isWord : Room := { frames := 0, cells := 0, slots := 0, locals := 0 }
def m_X8_isWord (a0 : Int32) (σ : SG) : Option (Int32 × SG) :=
  if a0 < 0 then (
    chkZ (0 : Int32) σ
  ) else (
    if (32 : Int32) ≤ a0 then (
      chkZ (0 : Int32) σ
    ) else (
      chkZ (1 : Int32) σ
    )
  )
def rmX6_isQueueFull : Room := { frames := 0, cells := 0, slots := 0, locals := 0 }
def m_X6_isQueueFull (a0 : Option Nat) (σ : SG) : Option (Int32 × SG) :=
  (sGetI a0 6 4 σ).bind fun x1 =>
  (sGetR a0 6 3 σ).bind fun x2 =>
  (sLen x2 σ).bind fun x3 =>
  if x1 < x3 then (
    chkZ (0 : Int32) σ
  ) else (
    chkZ (1 : Int32) σ
  )
def rmX3_refusalOfWord : Room := { frames := 2, cells := 0, slots := 0, locals := 44 }
def m_X3_refusalOfWord (a0 : Option Nat) (a1 : Int32) (a2 : Int32) (σ : SG) : Option (Int32 × SG) :=
  (sObj a0 3 σ).bind fun _ =>
  bnd (m_X3_senderAt a0 a1 σ) fun r1 σ2 =>
  if r1 = none then (
    some ((-1 : Int32), σ2)
  ) else (
    bnd (m_X8_isWord a2 σ2) fun r4 σ5 =>
    if r4 = 0 then (
      some ((-2 : Int32), σ5)
    ) else (
      (sObj r1 6 σ5).bind fun _ =>
      bnd (m_X6_isQueueFull r1 σ5) fun r7 σ8 =>
      if r7 = 0 then (
        some ((0 : Int32), σ8)
      ) else (
        some ((-3 : Int32), σ8)
      )
    )
  )
def rmX6_addWord : Room := { frames := 0, cells := 0, slots := 0, locals := 0 }
def m_X6_addWord (a0 : Option Nat) (a1 : Int32) (σ : SG) : Option (Unit × SG) :=
  (sGetI a0 6 4 σ).bind fun x1 =>
  if x1 < 0 then (
    some ((), σ)
  ) else (
    (sGetI a0 6 4 σ).bind fun x3 =>
    (sGetR a0 6 3 σ).bind fun x4 =>
    (sLen x4 σ).bind fun x5 =>
    if x5 ≤ x3 then (
      some ((), σ)
    ) else (
      (sGetR a0 6 3 σ).bind fun x7 =>
      (sGetI a0 6 4 σ).bind fun x8 =>
      (sAst x7 1 x8 a1 σ).bind fun σ9 =>
      (sGetI a0 6 4 σ9).bind fun x10 =>
      (sPutI a0 6 4 (x10 + (1 : Int32)) σ9).bind fun σ11 =>
      some ((), σ11)
    )
  )
def rmX3_giveWord : Room := { frames := 2, cells := 0, slots := 0, locals := 44 }
def m_X3_giveWord (a0 : Option Nat) (a1 : Int32) (a2 : Int32) (σ : SG) : Option (Int32 × SG) :=
  (sObj a0 3 σ).bind fun _ =>
  bnd (m_X3_senderAt a0 a1 σ) fun r1 σ2 =>
  if r1 = none then (
    some ((-1 : Int32), σ2)
  ) else (
    (sObj r1 6 σ2).bind fun _ =>
    bnd (m_X6_addWord r1 a2 σ2) fun _ σ4 =>
    (sGetI r1 6 4 σ4).bind fun x5 =>
    some (x5, σ4)
  )
def rmX3_lossBetween : Room := { frames := 0, cells := 0, slots := 0, locals := 0 }
def m_X3_lossBetween_b39 (v3 : Int32) (s0 : Int32) (σ : SG) : Option (Int32 × SG) :=
  some ((v3 + s0), σ)
def m_X3_lossBetween_b19 (v0 : Option Nat) (v1 : Int32) (v2 : Int32) (s0 : Int32) (σ : SG) : Option (Int32 × SG) :=
  if (3 : Int32) = 0 then none else
  if (3 : Int32) = 0 then none else
  if (v1 / (3 : Int32)) = (v2 / (3 : Int32)) then (
    m_X3_lossBetween_b39 s0 ((0 : Int32)) σ
  ) else (
    (sGetR v0 3 4 σ).bind fun x2 =>
    (sAld x2 1 (1 : Int32) σ).bind fun x3 =>
    m_X3_lossBetween_b39 s0 x3 σ
  )
def m_X3_lossBetween (a0 : Option Nat) (a1 : Int32) (a2 : Int32) (σ : SG) : Option (Int32 × SG) :=
  if (3 : Int32) = 0 then none else
  if (3 : Int32) = 0 then none else
  if (a1 - a1 / (3 : Int32) * (3 : Int32)) = (a2 - a2 / (3 : Int32) * (3 : Int32)) then (
    m_X3_lossBetween_b19 a0 a1 a2 ((0 : Int32)) σ
  ) else (
    (sGetR a0 3 4 σ).bind fun x5 =>
    (sAld x5 1 (0 : Int32) σ).bind fun x6 =>
    m_X3_lossBetween_b19 a0 a1 a2 x6 σ
  )
def rmX4_isQuiet : Room := { frames := 0, cells := 0, slots := 0, locals := 0 }
def m_X4_isQuiet (a0 : Option Nat) (σ : SG) : Option (Int32 × SG) :=
  (sGetI a0 4 0 σ).bind fun x1 =>
  if x1 = 0 then (
    (sGetI a0 4 1 σ).bind fun x3 =>
    if x3 = 0 then (
      chkZ (1 : Int32) σ
    ) else (
      chkZ (0 : Int32) σ
    )
  ) else (
    chkZ (0 : Int32) σ
  )
def rmX3_isQuietOn : Room := { frames := 1, cells := 0, slots := 0, locals := 20 }
def m_X3_isQuietOn (a0 : Option Nat) (a1 : Int32) (σ : SG) : Option (Int32 × SG) :=
  if a1 < 0 then (
    chkZ (0 : Int32) σ
  ) else (
    (sGetR a0 3 3 σ).bind fun x2 =>
    (sLen x2 σ).bind fun x3 =>
    if x3 ≤ a1 then (
      chkZ (0 : Int32) σ
    ) else (
      (sGetR a0 3 3 σ).bind fun x5 =>
      (sAldR x5 a1 σ).bind fun x6 =>
      (sObj x6 4 σ).bind fun _ =>
      bnd (m_X4_isQuiet x6 σ) fun r7 σ8 =>
      if r7 = 0 then (
        chkZ (0 : Int32) σ8
      ) else (
        chkZ (1 : Int32) σ8
      )
    )
  )
def rmX6_beginOrWait : Room := { frames := 0, cells := 0, slots := 0, locals := 0 }
def m_X6_beginOrWait (a0 : Option Nat) (a1 : Int32) (σ : SG) : Option (Unit × SG) :=
  (sGetI a0 6 6 σ).bind fun x1 =>
  if x1 = 0 then (
    (sGetI a0 6 9 σ).bind fun x3 =>
    if x3 ≤ 0 then (
      (sGetI a0 6 4 σ).bind fun x5 =>
      if x5 ≤ 0 then (
        some ((), σ)
      ) else (
        if a1 = 0 then (
          some ((), σ)
        ) else (
          (sPutZ a0 6 6 (1 : Int32) σ).bind fun σ8 =>
          (sPutI a0 6 7 (0 : Int32) σ8).bind fun σ9 =>
          (sPutI a0 6 8 (0 : Int32) σ9).bind fun σ10 =>
          some ((), σ10)
        )
      )
    ) else (
      (sGetI a0 6 9 σ).bind fun x11 =>
      (sPutI a0 6 9 (x11 - (1 : Int32)) σ).bind fun σ12 =>
      some ((), σ12)
    )
  ) else (
    some ((), σ)
  )
def rmX3_beginSpeaking : Room := { frames := 2, cells := 0, slots := 0, locals := 41 }
def m_X3_beginSpeaking_b42 (rec10 : Option Nat → Option Nat → Int32 → Int32 → SG → Option (Unit × SG)) (v0 : Option Nat) (v1 : Option Nat) (v2 : Int32) (v3 : Int32) (σ : SG) : Option (Unit × SG) :=
  rec10 v0 v1 v2 ((v3 + 1)) σ
def m_X3_beginSpeaking_B10 (rec10 : Option Nat → Option Nat → Int32 → Int32 → SG → Option (Unit × SG)) (v0 : Option Nat) (v1 : Option Nat) (v2 : Int32) (v3 : Int32) (σ : SG) : Option (Unit × SG) :=
  if v2 ≤ v3 then (
    some ((), σ)
  ) else (
    (sAldR v1 v3 σ).bind fun x2 =>
    (sGetI x2 6 1 σ).bind fun x3 =>
    if x3 = 0 then (
      m_X3_beginSpeaking_b42 rec10 v0 v1 v2 v3 σ
    ) else (
      (sGetI x2 6 2 σ).bind fun x5 =>
      (sObj v0 3 σ).bind fun _ =>
      bnd (m_X3_isQuietOn v0 x5 σ) fun r6 σ7 =>
      (sObj x2 6 σ7).bind fun _ =>
      bnd (m_X6_beginOrWait x2 r6 σ7) fun _ σ8 =>
      m_X3_beginSpeaking_b42 rec10 v0 v1 v2 v3 σ8
    )
  )
def m_X3_beginSpeaking_L10 (n : Nat) : Option Nat → Option Nat → Int32 → Int32 → SG → Option (Unit × SG) := itF (fun _ _ _ _ _ => none) (m_X3_beginSpeaking_B10 ) n
def m_X3_beginSpeaking (a0 : Option Nat) (σ : SG) : Option (Unit × SG) :=
  (sGetR a0 3 0 σ).bind fun x9 =>
  (sLen x9 σ).bind fun x10 =>
  m_X3_beginSpeaking_L10 1000 a0 x9 x10 ((0 : Int32)) σ
def rmX8_frameBit : Room := { frames := 0, cells := 0, slots := 0, locals := 0 }
def m_X8_frameBit (a0 : Int32) (a1 : Int32) (σ : SG) : Option (Int32 × SG) :=
  if (4 : Int32) ≤ a1 then (
    if (2 : Int32) = 0 then none else
    if (2 : Int32) = 0 then none else
    if (a1 - a1 / (2 : Int32) * (2 : Int32)) = 0 then (
      some (((a0 >>> (((4 : Int32) - ((a1 - (4 : Int32)) / (2 : Int32))) &&& 31)) &&& (1 : Int32)), σ)
    ) else (
      some (((1 : Int32) - ((a0 >>> (((4 : Int32) - ((a1 - (4 : Int32)) / (2 : Int32))) &&& 31)) &&& (1 : Int32))), σ)
    )
  ) else (
    some ((((14 : Int32) >>> (((3 : Int32) - a1) &&& 31)) &&& (1 : Int32)), σ)
  )
def rmX6_bitToSend : Room := { frames := 1, cells := 0, slots := 0, locals := 23 }
def m_X6_bitToSend (a0 : Option Nat) (σ : SG) : Option (Int32 × SG) :=
  (sGetI a0 6 8 σ).bind fun x1 =>
  if (14 : Int32) ≤ x1 then (
    some ((0 : Int32), σ)
  ) else (
    (sGetR a0 6 3 σ).bind fun x3 =>
    (sAld x3 1 (0 : Int32) σ).bind fun x4 =>
    (sGetI a0 6 8 σ).bind fun x5 =>
    bnd (m_X8_frameBit x4 x5 σ) fun r6 σ7 =>
    some (r6, σ7)
  )
def rmX3_spreadOne : Room := { frames := 1, cells := 0, slots := 0, locals := 24 }
def m_X3_spreadOne_b35 (rec2 : Option Nat → Int32 → Int32 → Int32 → SG → Option (Unit × SG)) (v0 : Option Nat) (v1 : Int32) (v2 : Int32) (v3 : Int32) (σ : SG) : Option (Unit × SG) :=
  rec2 v0 v1 v2 ((v3 + 1)) σ
def m_X3_spreadOne_B2 (rec2 : Option Nat → Int32 → Int32 → Int32 → SG → Option (Unit × SG)) (v0 : Option Nat) (v1 : Int32) (v2 : Int32) (v3 : Int32) (σ : SG) : Option (Unit × SG) :=
  (sGetR v0 3 7 σ).bind fun x1 =>
  (sLen x1 σ).bind fun x2 =>
  if x2 ≤ v3 then (
    some ((), σ)
  ) else (
    (sObj v0 3 σ).bind fun _ =>
    bnd (m_X3_lossBetween v0 v1 v3 σ) fun r4 σ5 =>
    (sGetR v0 3 4 σ5).bind fun x6 =>
    (sAld x6 1 (2 : Int32) σ5).bind fun x7 =>
    if (v2 - r4) < x7 then (
      m_X3_spreadOne_b35 rec2 v0 v1 v2 v3 σ5
    ) else (
      (sGetR v0 3 7 σ5).bind fun x9 =>
      (sAst x9 2 v3 (vp_nar .boolean (1 : Int32)) σ5).bind fun σ10 =>
      m_X3_spreadOne_b35 rec2 v0 v1 v2 v3 σ10
    )
  )
def m_X3_spreadOne_L2 (n : Nat) : Option Nat → Int32 → Int32 → Int32 → SG → Option (Unit × SG) := itF (fun _ _ _ _ _ => none) (m_X3_spreadOne_B2 ) n
def m_X3_spreadOne (a0 : Option Nat) (a1 : Int32) (a2 : Int32) (σ : SG) : Option (Unit × SG) :=
  m_X3_spreadOne_L2 1000 a0 a1 a2 ((0 : Int32)) σ
def rmX3_carryBits : Room := { frames := 2, cells := 0, slots := 0, locals := 47 }
def m_X3_carryBits_b127 (rec91 : Option Nat → Option Nat → Int32 → Int32 → SG → Option (Unit × SG)) (v0 : Option Nat) (v1 : Option Nat) (v2 : Int32) (v3 : Int32) (σ : SG) : Option (Unit × SG) :=
  rec91 v0 v1 v2 ((v3 + 1)) σ
def m_X3_carryBits_B91 (rec91 : Option Nat → Option Nat → Int32 → Int32 → SG → Option (Unit × SG)) (v0 : Option Nat) (v1 : Option Nat) (v2 : Int32) (v3 : Int32) (σ : SG) : Option (Unit × SG) :=
  if v2 ≤ v3 then (
    some ((), σ)
  ) else (
    (sAldR v1 v3 σ).bind fun x2 =>
    (sGetI v0 3 6 σ).bind fun x3 =>
    (sObj x2 2 σ).bind fun _ =>
    bnd (m_X2_makesNoiseAt x2 x3 σ) fun r4 σ5 =>
    if r4 = 0 then (
      m_X3_carryBits_b127 rec91 v0 v1 v2 v3 σ5
    ) else (
      (sGetI x2 2 2 σ5).bind fun x7 =>
      (sGetI x2 2 3 σ5).bind fun x8 =>
      (sObj v0 3 σ5).bind fun _ =>
      bnd (m_X3_spreadOne v0 x7 x8 σ5) fun _ σ9 =>
      m_X3_carryBits_b127 rec91 v0 v1 v2 v3 σ9
    )
  )
def m_X3_carryBits_L91 (n : Nat) : Option Nat → Option Nat → Int32 → Int32 → SG → Option (Unit × SG) := itF (fun _ _ _ _ _ => none) (m_X3_carryBits_B91 ) n
def m_X3_carryBits_b75 (rec34 : Option Nat → Option Nat → Int32 → Int32 → SG → Option (Unit × SG)) (v0 : Option Nat) (v1 : Option Nat) (v2 : Int32) (v3 : Int32) (σ : SG) : Option (Unit × SG) :=
  rec34 v0 v1 v2 ((v3 + 1)) σ
def m_X3_carryBits_B34 (rec34 : Option Nat → Option Nat → Int32 → Int32 → SG → Option (Unit × SG)) (v0 : Option Nat) (v1 : Option Nat) (v2 : Int32) (v3 : Int32) (σ : SG) : Option (Unit × SG) :=
  if v2 ≤ v3 then (
    (sGetR v0 3 1 σ).bind fun x11 =>
    (sLen x11 σ).bind fun x12 =>
    m_X3_carryBits_L91 1000 v0 x11 x12 ((0 : Int32)) σ
  ) else (
    (sAldR v1 v3 σ).bind fun x13 =>
    (sObj x13 6 σ).bind fun _ =>
    bnd (m_X6_isSpeaking x13 σ) fun r14 σ15 =>
    if r14 = 0 then (
      m_X3_carryBits_b75 rec34 v0 v1 v2 v3 σ15
    ) else (
      (sObj x13 6 σ15).bind fun _ =>
      bnd (m_X6_bitToSend x13 σ15) fun r17 σ18 =>
      if r17 = (1 : Int32) then (
        (sGetI x13 6 2 σ18).bind fun x20 =>
        (sGetI x13 6 5 σ18).bind fun x21 =>
        (sObj v0 3 σ18).bind fun _ =>
        bnd (m_X3_spreadOne v0 x20 x21 σ18) fun _ σ22 =>
        m_X3_carryBits_b75 rec34 v0 v1 v2 v3 σ22
      ) else (
        m_X3_carryBits_b75 rec34 v0 v1 v2 v3 σ18
      )
    )
  )
def m_X3_carryBits_L34 (n : Nat) : Option Nat → Option Nat → Int32 → Int32 → SG → Option (Unit × SG) := itF (fun _ _ _ _ _ => none) (m_X3_carryBits_B34 ) n
def m_X3_carryBits_B2 (rec2 : Option Nat → Int32 → SG → Option (Unit × SG)) (v0 : Option Nat) (v1 : Int32) (σ : SG) : Option (Unit × SG) :=
  (sGetR v0 3 7 σ).bind fun x23 =>
  (sLen x23 σ).bind fun x24 =>
  if x24 ≤ v1 then (
    (sGetR v0 3 0 σ).bind fun x26 =>
    (sLen x26 σ).bind fun x27 =>
    m_X3_carryBits_L34 1000 v0 x26 x27 ((0 : Int32)) σ
  ) else (
    (sGetR v0 3 7 σ).bind fun x28 =>
    (sAst x28 2 v1 (vp_nar .boolean (0 : Int32)) σ).bind fun σ29 =>
    rec2 v0 ((v1 + 1)) σ29
  )
def m_X3_carryBits_L2 (n : Nat) : Option Nat → Int32 → SG → Option (Unit × SG) := itF (fun _ _ _ => none) (m_X3_carryBits_B2 ) n
def m_X3_carryBits (a0 : Option Nat) (σ : SG) : Option (Unit × SG) :=
  m_X3_carryBits_L2 1000 a0 ((0 : Int32)) σ
def rmX3_isHeardOn : Room := { frames := 0, cells := 0, slots := 0, locals := 0 }
def m_X3_isHeardOn (a0 : Option Nat) (a1 : Int32) (σ : SG) : Option (Int32 × SG) :=
  if a1 < 0 then (
    chkZ (0 : Int32) σ
  ) else (
    (sGetR a0 3 7 σ).bind fun x2 =>
    (sLen x2 σ).bind fun x3 =>
    if x3 ≤ a1 then (
      chkZ (0 : Int32) σ
    ) else (
      (sGetR a0 3 7 σ).bind fun x5 =>
      (sAld x5 2 a1 σ).bind fun x6 =>
      if x6 = 0 then (
        chkZ (0 : Int32) σ
      ) else (
        chkZ (1 : Int32) σ
      )
    )
  )
def rmX6_isDisturbedBy : Room := { frames := 2, cells := 0, slots := 0, locals := 43 }
def m_X6_isDisturbedBy (a0 : Option Nat) (a1 : Int32) (σ : SG) : Option (Int32 × SG) :=
  if a1 = 0 then (
    chkZ (0 : Int32) σ
  ) else (
    (sGetI a0 6 8 σ).bind fun x2 =>
    if (14 : Int32) ≤ x2 then (
      chkZ (0 : Int32) σ
    ) else (
      (sObj a0 6 σ).bind fun _ =>
      bnd (m_X6_bitToSend a0 σ) fun r4 σ5 =>
      if r4 = 0 then (
        chkZ (1 : Int32) σ5
      ) else (
        chkZ (0 : Int32) σ5
      )
    )
  )
def rmX6_giveWay : Room := { frames := 0, cells := 0, slots := 0, locals := 0 }
def m_X6_giveWay (a0 : Option Nat) (σ : SG) : Option (Unit × SG) :=
  (sPutZ a0 6 6 (0 : Int32) σ).bind fun σ1 =>
  (sGetI a0 6 0 σ1).bind fun x2 =>
  (sPutI a0 6 9 ((3 : Int32) + ((2 : Int32) * x2)) σ1).bind fun σ3 =>
  some ((), σ3)
def rmX6_dropFirstWord : Room := { frames := 0, cells := 0, slots := 0, locals := 0 }
def m_X6_dropFirstWord_B2 (rec2 : Option Nat → Int32 → SG → Option (Unit × SG)) (v0 : Option Nat) (v1 : Int32) (σ : SG) : Option (Unit × SG) :=
  (sGetR v0 6 3 σ).bind fun x1 =>
  (sLen x1 σ).bind fun x2 =>
  if x2 ≤ v1 then (
    (sGetI v0 6 4 σ).bind fun x4 =>
    (sPutI v0 6 4 (x4 - (1 : Int32)) σ).bind fun σ5 =>
    some ((), σ5)
  ) else (
    (sGetR v0 6 3 σ).bind fun x6 =>
    (sGetR v0 6 3 σ).bind fun x7 =>
    (sAld x7 1 v1 σ).bind fun x8 =>
    (sAst x6 1 (v1 - (1 : Int32)) x8 σ).bind fun σ9 =>
    rec2 v0 ((v1 + 1)) σ9
  )
def m_X6_dropFirstWord_L2 (n : Nat) : Option Nat → Int32 → SG → Option (Unit × SG) := itF (fun _ _ _ => none) (m_X6_dropFirstWord_B2 ) n
def m_X6_dropFirstWord (a0 : Option Nat) (σ : SG) : Option (Unit × SG) :=
  m_X6_dropFirstWord_L2 1000 a0 ((1 : Int32)) σ
def rmX6_goOn : Room := { frames := 1, cells := 0, slots := 0, locals := 21 }
def m_X6_goOn (a0 : Option Nat) (a1 : Int32) (σ : SG) : Option (Int32 × SG) :=
  (sGetI a0 6 8 σ).bind fun x1 =>
  (sPutI a0 6 8 (x1 + (1 : Int32)) σ).bind fun σ2 =>
  (sGetI a0 6 8 σ2).bind fun x3 =>
  if (16 : Int32) < x3 then (
    (sPutI a0 6 8 (0 : Int32) σ2).bind fun σ5 =>
    (sGetI a0 6 7 σ5).bind fun x6 =>
    (sPutI a0 6 7 (x6 + (1 : Int32)) σ5).bind fun σ7 =>
    (sGetI a0 6 7 σ7).bind fun x8 =>
    if a1 ≤ x8 then (
      (sPutZ a0 6 6 (0 : Int32) σ7).bind fun σ10 =>
      (sObj a0 6 σ10).bind fun _ =>
      bnd (m_X6_dropFirstWord a0 σ10) fun _ σ11 =>
      chkZ (1 : Int32) σ11
    ) else (
      chkZ (0 : Int32) σ7
    )
  ) else (
    chkZ (0 : Int32) σ2
  )
def rmX3_moveSenders : Room := { frames := 3, cells := 0, slots := 0, locals := 64 }
def m_X3_moveSenders_b90 (rec10 : Option Nat → Option Nat → Int32 → Int32 → SG → Option (Unit × SG)) (v0 : Option Nat) (v1 : Option Nat) (v2 : Int32) (v3 : Int32) (σ : SG) : Option (Unit × SG) :=
  rec10 v0 v1 v2 ((v3 + 1)) σ
def m_X3_moveSenders_B10 (rec10 : Option Nat → Option Nat → Int32 → Int32 → SG → Option (Unit × SG)) (v0 : Option Nat) (v1 : Option Nat) (v2 : Int32) (v3 : Int32) (σ : SG) : Option (Unit × SG) :=
  if v2 ≤ v3 then (
    some ((), σ)
  ) else (
    (sAldR v1 v3 σ).bind fun x2 =>
    (sObj x2 6 σ).bind fun _ =>
    bnd (m_X6_isSpeaking x2 σ) fun r3 σ4 =>
    if r3 = 0 then (
      m_X3_moveSenders_b90 rec10 v0 v1 v2 v3 σ4
    ) else (
      (sGetI x2 6 2 σ4).bind fun x6 =>
      (sObj v0 3 σ4).bind fun _ =>
      bnd (m_X3_isHeardOn v0 x6 σ4) fun r7 σ8 =>
      (sObj x2 6 σ8).bind fun _ =>
      bnd (m_X6_isDisturbedBy x2 r7 σ8) fun r9 σ10 =>
      if r9 = 0 then (
        (sGetR v0 3 4 σ10).bind fun x12 =>
        (sAld x12 1 (3 : Int32) σ10).bind fun x13 =>
        (sObj x2 6 σ10).bind fun _ =>
        bnd (m_X6_goOn x2 x13 σ10) fun r14 σ15 =>
        if r14 = 0 then (
          m_X3_moveSenders_b90 rec10 v0 v1 v2 v3 σ15
        ) else (
          (sGetR v0 3 5 σ15).bind fun x17 =>
          (sAld x17 1 (0 : Int32) σ15).bind fun x18 =>
          (sAst x17 1 (0 : Int32) (x18 + (1 : Int32)) σ15).bind fun σ19 =>
          m_X3_moveSenders_b90 rec10 v0 v1 v2 v3 σ19
        )
      ) else (
        (sObj x2 6 σ10).bind fun _ =>
        bnd (m_X6_giveWay x2 σ10) fun _ σ20 =>
        (sGetR v0 3 5 σ20).bind fun x21 =>
        (sAld x21 1 (1 : Int32) σ20).bind fun x22 =>
        (sAst x21 1 (1 : Int32) (x22 + (1 : Int32)) σ20).bind fun σ23 =>
        m_X3_moveSenders_b90 rec10 v0 v1 v2 v3 σ23
      )
    )
  )
def m_X3_moveSenders_L10 (n : Nat) : Option Nat → Option Nat → Int32 → Int32 → SG → Option (Unit × SG) := itF (fun _ _ _ _ _ => none) (m_X3_moveSenders_B10 ) n
def m_X3_moveSenders (a0 : Option Nat) (σ : SG) : Option (Unit × SG) :=
  (sGetR a0 3 0 σ).bind fun x24 =>
  (sLen x24 σ).bind fun x25 =>
  m_X3_moveSenders_L10 1000 a0 x24 x25 ((0 : Int32)) σ
def rmX4_listenAnew : Room := { frames := 0, cells := 0, slots := 0, locals := 0 }
def m_X4_listenAnew (a0 : Option Nat) (σ : SG) : Option (Unit × SG) :=
  (sPutZ a0 4 0 (0 : Int32) σ).bind fun σ1 =>
  (sPutI a0 4 1 (0 : Int32) σ1).bind fun σ2 =>
  some ((), σ2)
def rmX4_read : Room := { frames := 1, cells := 0, slots := 0, locals := 20 }
def m_X4_read (a0 : Option Nat) (a1 : Int32) (σ : SG) : Option (Int32 × SG) :=
  (sGetI a0 4 2 σ).bind fun x1 =>
  (sPutI a0 4 2 (x1 + (1 : Int32)) σ).bind fun σ2 =>
  (sGetI a0 4 2 σ2).bind fun x3 =>
  if (2 : Int32) = 0 then none else
  if (x3 - x3 / (2 : Int32) * (2 : Int32)) = 0 then (
    (sGetI a0 4 3 σ2).bind fun x5 =>
    if (x5 &&& (1 : Int32)) = a1 then (
      (sObj a0 4 σ2).bind fun _ =>
      bnd (m_X4_listenAnew a0 σ2) fun _ σ7 =>
      some ((-2 : Int32), σ7)
    ) else (
      (sGetI a0 4 2 σ2).bind fun x8 =>
      if (10 : Int32) ≤ x8 then (
        (sObj a0 4 σ2).bind fun _ =>
        bnd (m_X4_listenAnew a0 σ2) fun _ σ10 =>
        (sGetI a0 4 3 σ10).bind fun x11 =>
        some (x11, σ10)
      ) else (
        some ((-1 : Int32), σ2)
      )
    )
  ) else (
    (sGetI a0 4 3 σ2).bind fun x12 =>
    (sPutI a0 4 3 ((x12 <<< ((1 : Int32) &&& 31)) ||| a1) σ2).bind fun σ13 =>
    some ((-1 : Int32), σ13)
  )
def rmX4_listen : Room := { frames := 0, cells := 0, slots := 0, locals := 0 }
def m_X4_listen (a0 : Option Nat) (a1 : Int32) (σ : SG) : Option (Int32 × SG) :=
  (sGetI a0 4 1 σ).bind fun x1 =>
  (sPutI a0 4 1 (((x1 <<< ((1 : Int32) &&& 31)) ||| a1) &&& (15 : Int32)) σ).bind fun σ2 =>
  (sGetI a0 4 1 σ2).bind fun x3 =>
  if x3 = (14 : Int32) then (
    (sPutZ a0 4 0 (1 : Int32) σ2).bind fun σ5 =>
    (sPutI a0 4 2 (0 : Int32) σ5).bind fun σ6 =>
    (sPutI a0 4 3 (0 : Int32) σ6).bind fun σ7 =>
    some ((-1 : Int32), σ7)
  ) else (
    some ((-1 : Int32), σ2)
  )
def rmX4_take : Room := { frames := 2, cells := 0, slots := 0, locals := 41 }
def m_X4_take (a0 : Option Nat) (a1 : Int32) (σ : SG) : Option (Int32 × SG) :=
  (sGetI a0 4 0 σ).bind fun x1 =>
  if x1 = 0 then (
    (sObj a0 4 σ).bind fun _ =>
    bnd (m_X4_listen a0 a1 σ) fun r3 σ4 =>
    some (r3, σ4)
  ) else (
    (sObj a0 4 σ).bind fun _ =>
    bnd (m_X4_read a0 a1 σ) fun r5 σ6 =>
    some (r5, σ6)
  )
def rmX4_tell : Room := { frames := 0, cells := 0, slots := 0, locals := 0 }
def m_X4_tell_b24 (v0 : Option Nat) (v1 : Int32) (v2 : Int32) (s0 : Int32) (σ : SG) : Option (Int32 × SG) :=
  (sPutI v0 4 4 v1 σ).bind fun σ1 =>
  (sPutI v0 4 5 v2 σ1).bind fun σ2 =>
  if s0 = 0 then (
    chkZ (1 : Int32) σ2
  ) else (
    chkZ (0 : Int32) σ2
  )
def m_X4_tell_b23 (v0 : Option Nat) (v1 : Int32) (v2 : Int32) (σ : SG) : Option (Int32 × SG) :=
  m_X4_tell_b24 v0 v1 v2 ((0 : Int32)) σ
def m_X4_tell (a0 : Option Nat) (a1 : Int32) (a2 : Int32) (σ : SG) : Option (Int32 × SG) :=
  (sGetI a0 4 4 σ).bind fun x4 =>
  if a1 = x4 then (
    (sGetI a0 4 5 σ).bind fun x6 =>
    if (17 : Int32) < (a2 - x6) then (
      m_X4_tell_b23 a0 a1 a2 σ
    ) else (
      m_X4_tell_b24 a0 a1 a2 ((1 : Int32)) σ
    )
  ) else (
    m_X4_tell_b23 a0 a1 a2 σ
  )
def rmX4_isOpen : Room := { frames := 0, cells := 0, slots := 0, locals := 0 }
def m_X4_isOpen (a0 : Option Nat) (a1 : Int32) (σ : SG) : Option (Int32 × SG) :=
  (sGetI a0 4 6 σ).bind fun x1 =>
  if ((x1 >>> (a1 &&& 31)) &&& (1 : Int32)) = (1 : Int32) then (
    chkZ (1 : Int32) σ
  ) else (
    chkZ (0 : Int32) σ
  )
def rmX4_setOpen : Room := { frames := 0, cells := 0, slots := 0, locals := 0 }
def m_X4_setOpen_b26 (s0 : Option Nat) (s1 : Int32) (σ : SG) : Option (Unit × SG) :=
  (sPutI s0 4 6 s1 σ).bind fun σ1 =>
  some ((), σ1)
def m_X4_setOpen (a0 : Option Nat) (a1 : Int32) (a2 : Int32) (σ : SG) : Option (Unit × SG) :=
  if a2 = 0 then (
    (sGetI a0 4 6 σ).bind fun x3 =>
    m_X4_setOpen_b26 a0 ((x3 &&& (((1 : Int32) <<< (a1 &&& 31)) ^^^ (-1 : Int32)))) σ
  ) else (
    (sGetI a0 4 6 σ).bind fun x4 =>
    m_X4_setOpen_b26 a0 ((x4 ||| ((1 : Int32) <<< (a1 &&& 31)))) σ
  )
def rmX3_hearWord : Room := { frames := 2, cells := 0, slots := 0, locals := 43 }
def m_X3_hearWord_b118 (s0 : Option Nat) (s1 : Int32) (s2 : Int32) (σ : SG) : Option (Int32 × SG) :=
  (sObj s0 4 σ).bind fun _ =>
  bnd (m_X4_setOpen s0 s1 s2 σ) fun _ σ1 =>
  some ((1 : Int32), σ1)
def m_X3_hearWord_b98 (rec60 : Int32 → Option Nat → Int32 → Int32 → Option Nat → Int32 → Int32 → SG → Option (Int32 × SG)) (v1 : Int32) (v2 : Option Nat) (v4 : Int32) (v5 : Int32) (v6 : Option Nat) (v7 : Int32) (v8 : Int32) (σ : SG) : Option (Int32 × SG) :=
  rec60 v1 v2 v4 v5 v6 v7 ((v8 + 1)) σ
def m_X3_hearWord_B60 (rec60 : Int32 → Option Nat → Int32 → Int32 → Option Nat → Int32 → Int32 → SG → Option (Int32 × SG)) (v1 : Int32) (v2 : Option Nat) (v4 : Int32) (v5 : Int32) (v6 : Option Nat) (v7 : Int32) (v8 : Int32) (σ : SG) : Option (Int32 × SG) :=
  if v7 ≤ v8 then (
    if (4 : Int32) ≤ v5 then (
      m_X3_hearWord_b118 v2 v4 ((0 : Int32)) σ
    ) else (
      m_X3_hearWord_b118 v2 v4 ((1 : Int32)) σ
    )
  ) else (
    (sAldR v6 v8 σ).bind fun x4 =>
    (sObj x4 1 σ).bind fun _ =>
    bnd (m_X1_isCalledBy x4 v1 v4 σ) fun r5 σ6 =>
    if r5 = 0 then (
      m_X3_hearWord_b98 rec60 v1 v2 v4 v5 v6 v7 v8 σ6
    ) else (
      (sObj v2 4 σ6).bind fun _ =>
      bnd (m_X4_isOpen v2 v4 σ6) fun r8 σ9 =>
      (sObj x4 1 σ9).bind fun _ =>
      bnd (m_X1_obey x4 v5 r8 σ9) fun _ σ10 =>
      m_X3_hearWord_b98 rec60 v1 v2 v4 v5 v6 v7 v8 σ10
    )
  )
def m_X3_hearWord_L60 (n : Nat) : Int32 → Option Nat → Int32 → Int32 → Option Nat → Int32 → Int32 → SG → Option (Int32 × SG) := itF (fun _ _ _ _ _ _ _ _ => none) (m_X3_hearWord_B60 ) n
def m_X3_hearWord (a0 : Option Nat) (a1 : Int32) (a2 : Option Nat) (a3 : Int32) (σ : SG) : Option (Int32 × SG) :=
  (sGetI a0 3 6 σ).bind fun x11 =>
  (sObj a2 4 σ).bind fun _ =>
  bnd (m_X4_tell a2 a3 x11 σ) fun r12 σ13 =>
  if r12 = 0 then (
    (sGetR a0 3 5 σ13).bind fun x15 =>
    (sAld x15 1 (3 : Int32) σ13).bind fun x16 =>
    (sAst x15 1 (3 : Int32) (x16 + (1 : Int32)) σ13).bind fun σ17 =>
    some ((0 : Int32), σ17)
  ) else (
    (sGetR a0 3 5 σ13).bind fun x18 =>
    (sAld x18 1 (2 : Int32) σ13).bind fun x19 =>
    (sAst x18 1 (2 : Int32) (x19 + (1 : Int32)) σ13).bind fun σ20 =>
    if (8 : Int32) = 0 then none else
    if (8 : Int32) = 0 then none else
    (sGetR a0 3 2 σ20).bind fun x21 =>
    (sLen x21 σ20).bind fun x22 =>
    m_X3_hearWord_L60 1000 a1 a2 ((a3 / (8 : Int32))) ((a3 - a3 / (8 : Int32) * (8 : Int32))) x21 x22 ((0 : Int32)) σ20
  )
def rmX3_takeBits : Room := { frames := 3, cells := 0, slots := 0, locals := 72 }
def m_X3_takeBits_b70 (rec4 : Option Nat → Int32 → Int32 → SG → Option (Int32 × SG)) (v0 : Option Nat) (v1 : Int32) (v2 : Int32) (σ : SG) : Option (Int32 × SG) :=
  rec4 v0 v1 ((v2 + 1)) σ
def m_X3_takeBits_B4 (rec4 : Option Nat → Int32 → Int32 → SG → Option (Int32 × SG)) (v0 : Option Nat) (v1 : Int32) (v2 : Int32) (σ : SG) : Option (Int32 × SG) :=
  (sGetR v0 3 3 σ).bind fun x1 =>
  (sLen x1 σ).bind fun x2 =>
  if x2 ≤ v2 then (
    some (v1, σ)
  ) else (
    (sGetR v0 3 3 σ).bind fun x4 =>
    (sAldR x4 v2 σ).bind fun x5 =>
    (sObj v0 3 σ).bind fun _ =>
    bnd (m_X3_isHeardOn v0 v2 σ) fun r6 σ7 =>
    bnd (m_X8_asNumber r6 σ7) fun r8 σ9 =>
    (sObj x5 4 σ9).bind fun _ =>
    bnd (m_X4_take x5 r8 σ9) fun r10 σ11 =>
    if r10 = (-2 : Int32) then (
      (sGetR v0 3 5 σ11).bind fun x13 =>
      (sAld x13 1 (4 : Int32) σ11).bind fun x14 =>
      (sAst x13 1 (4 : Int32) (x14 + (1 : Int32)) σ11).bind fun σ15 =>
      m_X3_takeBits_b70 rec4 v0 v1 v2 σ15
    ) else (
      if r10 = (-1 : Int32) then (
        m_X3_takeBits_b70 rec4 v0 v1 v2 σ11
      ) else (
        (sGetR v0 3 3 σ11).bind fun x17 =>
        (sAldR x17 v2 σ11).bind fun x18 =>
        (sObj v0 3 σ11).bind fun _ =>
        bnd (m_X3_hearWord v0 v2 x18 r10 σ11) fun r19 σ20 =>
        m_X3_takeBits_b70 rec4 v0 ((v1 + r19)) v2 σ20
      )
    )
  )
def m_X3_takeBits_L4 (n : Nat) : Option Nat → Int32 → Int32 → SG → Option (Int32 × SG) := itF (fun _ _ _ _ => none) (m_X3_takeBits_B4 ) n
def m_X3_takeBits (a0 : Option Nat) (σ : SG) : Option (Int32 × SG) :=
  m_X3_takeBits_L4 1000 a0 ((0 : Int32)) ((0 : Int32)) σ
def rmX3_beat : Room := { frames := 4, cells := 0, slots := 0, locals := 95 }
def m_X3_beat (a0 : Option Nat) (σ : SG) : Option (Int32 × SG) :=
  (sObj a0 3 σ).bind fun _ =>
  bnd (m_X3_beginSpeaking a0 σ) fun _ σ1 =>
  (sObj a0 3 σ1).bind fun _ =>
  bnd (m_X3_carryBits a0 σ1) fun _ σ2 =>
  (sObj a0 3 σ2).bind fun _ =>
  bnd (m_X3_moveSenders a0 σ2) fun _ σ3 =>
  (sObj a0 3 σ3).bind fun _ =>
  bnd (m_X3_takeBits a0 σ3) fun r4 σ5 =>
  (sGetI a0 3 6 σ5).bind fun x6 =>
  (sPutI a0 3 6 (x6 + (1 : Int32)) σ5).bind fun σ7 =>
  some (r4, σ7)
def rmX3_letPass : Room := { frames := 5, cells := 0, slots := 0, locals := 116 }
def m_X3_letPass_B4 (rec4 : Option Nat → Int32 → Int32 → Int32 → SG → Option (Int32 × SG)) (v0 : Option Nat) (v1 : Int32) (v2 : Int32) (v3 : Int32) (σ : SG) : Option (Int32 × SG) :=
  if v1 ≤ v3 then (
    some (v2, σ)
  ) else (
    (sObj v0 3 σ).bind fun _ =>
    bnd (m_X3_beat v0 σ) fun r2 σ3 =>
    rec4 v0 v1 ((v2 + r2)) ((v3 + 1)) σ3
  )
def m_X3_letPass_L4 (n : Nat) : Option Nat → Int32 → Int32 → Int32 → SG → Option (Int32 × SG) := itF (fun _ _ _ _ _ => none) (m_X3_letPass_B4 ) n
def m_X3_letPass (a0 : Option Nat) (a1 : Int32) (σ : SG) : Option (Int32 × SG) :=
  m_X3_letPass_L4 1000 a0 a1 ((0 : Int32)) ((0 : Int32)) σ
def rmX5_init : Room := { frames := 1, cells := 1, slots := 800, locals := 12 }
def m_X5_init_e (lim : Nat) (a0 : Option Nat) (σ : SG) : Option (Unit × SG) :=
  (sNN a0).bind fun _ =>
  bnd (sNewA lim 1 (80 : Int32) σ) fun x1 σ2 =>
  (sPutR a0 5 0 x1 σ2).bind fun σ4 =>
  (sPutI a0 5 1 (0 : Int32) σ4).bind fun σ5 =>
  sEnd lim σ5
def m_X5_init (a0 : Option Nat) (σ : SG) : Option (Unit × SG) := m_X5_init_e (σ.2 + 1) a0 σ
def rmX6_put : Room := { frames := 0, cells := 0, slots := 0, locals := 0 }
def m_X6_put (a0 : Option Nat) (a1 : Int32) (a2 : Int32) (σ : SG) : Option (Unit × SG) :=
  (sPutZ a0 6 1 (1 : Int32) σ).bind fun σ1 =>
  (sPutI a0 6 2 a1 σ1).bind fun σ2 =>
  (sPutI a0 6 5 a2 σ2).bind fun σ3 =>
  (sPutI a0 6 4 (0 : Int32) σ3).bind fun σ4 =>
  (sPutZ a0 6 6 (0 : Int32) σ4).bind fun σ5 =>
  (sPutI a0 6 7 (0 : Int32) σ5).bind fun σ6 =>
  (sPutI a0 6 8 (0 : Int32) σ6).bind fun σ7 =>
  (sPutI a0 6 9 (0 : Int32) σ7).bind fun σ8 =>
  some ((), σ8)
def rmX6_wordAt : Room := { frames := 0, cells := 0, slots := 0, locals := 0 }
def m_X6_wordAt (a0 : Option Nat) (a1 : Int32) (σ : SG) : Option (Int32 × SG) :=
  if a1 < 0 then (
    some ((-5 : Int32), σ)
  ) else (
    (sGetI a0 6 4 σ).bind fun x2 =>
    if x2 ≤ a1 then (
      some ((-5 : Int32), σ)
    ) else (
      (sGetR a0 6 3 σ).bind fun x4 =>
      (sLen x4 σ).bind fun x5 =>
      if a1 < x5 then (
        (sGetR a0 6 3 σ).bind fun x7 =>
        (sAld x7 1 a1 σ).bind fun x8 =>
        some (x8, σ)
      ) else (
        some ((-5 : Int32), σ)
      )
    )
  )
def rmX8_init : Room := { frames := 5, cells := 256, slots := 204800, locals := 96 }
def m_X8_init_e (lim : Nat) (a0 : Option Nat) (σ : SG) : Option (Unit × SG) :=
  (sNN a0).bind fun _ =>
  bnd (sNew lim (.inl (3, [.null, .null, .null, .null, .null, .null, .int 0, .null])) σ) fun x1 σ2 =>
  (sRoom lim 35 σ2).bind fun _ =>
  (sObj x1 3 σ2).bind fun _ =>
  bnd (m_X3_init x1 σ2) fun _ σ4 =>
  (sSame σ4.2 (σ2.2 + 35)).bind fun _ =>
  (sPutR a0 7 0 x1 σ4).bind fun σ6 =>
  bnd (sNew lim (.inl (3, [.null, .null, .null, .null, .null, .null, .int 0, .null])) σ6) fun x7 σ8 =>
  (sRoom lim 35 σ8).bind fun _ =>
  (sObj x7 3 σ8).bind fun _ =>
  bnd (m_X3_init x7 σ8) fun _ σ10 =>
  (sSame σ10.2 (σ8.2 + 35)).bind fun _ =>
  (sPutR a0 7 1 x7 σ10).bind fun σ12 =>
  bnd (sNew lim (.inl (3, [.null, .null, .null, .null, .null, .null, .int 0, .null])) σ12) fun x13 σ14 =>
  (sRoom lim 35 σ14).bind fun _ =>
  (sObj x13 3 σ14).bind fun _ =>
  bnd (m_X3_init x13 σ14) fun _ σ16 =>
  (sSame σ16.2 (σ14.2 + 35)).bind fun _ =>
  (sPutR a0 7 2 x13 σ16).bind fun σ18 =>
  (sPutZ a0 7 3 (0 : Int32) σ18).bind fun σ19 =>
  bnd (sNew lim (.inl (0, [.null, .int 0])) σ19) fun x20 σ21 =>
  (sRoom lim 145 σ21).bind fun _ =>
  (sObj x20 0 σ21).bind fun _ =>
  bnd (m_X0_init x20 σ21) fun _ σ23 =>
  (sSame σ23.2 (σ21.2 + 145)).bind fun _ =>
  (sPutR a0 7 4 x20 σ23).bind fun σ25 =>
  bnd (sNew lim (.inl (5, [.null, .int 0])) σ25) fun x26 σ27 =>
  (sRoom lim 1 σ27).bind fun _ =>
  (sObj x26 5 σ27).bind fun _ =>
  bnd (m_X5_init x26 σ27) fun _ σ29 =>
  (sSame σ29.2 (σ27.2 + 1)).bind fun _ =>
  (sPutR a0 7 5 x26 σ29).bind fun σ31 =>
  sEnd lim σ31
def m_X8_init (a0 : Option Nat) (σ : SG) : Option (Unit × SG) := m_X8_init_e (σ.2 + 256) a0 σ
def rmX8_isWire : Room := { frames := 0, cells := 0, slots := 0, locals := 0 }
def m_X8_isWire (a0 : Int32) (σ : SG) : Option (Int32 × SG) :=
  if a0 < 0 then (
    chkZ (0 : Int32) σ
  ) else (
    if (6 : Int32) ≤ a0 then (
      chkZ (0 : Int32) σ
    ) else (
      chkZ (1 : Int32) σ
    )
  )
def rmX8_sender : Room := { frames := 4, cells := 0, slots := 0, locals := 86 }
def m_X8_sender (a0 : Option Nat) (a1 : Int32) (a2 : Int32) (σ : SG) : Option (Int32 × SG) :=
  bnd (m_X8_isWire a1 σ) fun r1 σ2 =>
  if r1 = 0 then (
    some ((-1 : Int32), σ2)
  ) else (
    if a2 < (1 : Int32) then (
      some ((-2 : Int32), σ2)
    ) else (
      if a2 ≤ (9 : Int32) then (
        (sGetR a0 7 0 σ2).bind fun x6 =>
        (sObj x6 3 σ2).bind fun _ =>
        bnd (m_X3_freeSender x6 σ2) fun r7 σ8 =>
        if r7 = none then (
          some ((-3 : Int32), σ8)
        ) else (
          (sGetR a0 7 4 σ8).bind fun x10 =>
          (sGetR a0 7 0 σ8).bind fun x11 =>
          (sObj x10 0 σ8).bind fun _ =>
          bnd (m_X0_keep x10 x11 σ8) fun _ σ12 =>
          (sObj r7 6 σ12).bind fun _ =>
          bnd (m_X6_put r7 a1 a2 σ12) fun _ σ13 =>
          (sGetI r7 6 0 σ13).bind fun x14 =>
          some (x14, σ13)
        )
      ) else (
        some ((-2 : Int32), σ2)
      )
    )
  )
def rmX8_machine : Room := { frames := 4, cells := 0, slots := 0, locals := 86 }
def m_X8_machine (a0 : Option Nat) (a1 : Int32) (a2 : Int32) (a3 : Int32) (σ : SG) : Option (Int32 × SG) :=
  bnd (m_X8_isWire a1 σ) fun r1 σ2 =>
  if r1 = 0 then (
    some ((-1 : Int32), σ2)
  ) else (
    if a2 < (1 : Int32) then (
      some ((-2 : Int32), σ2)
    ) else (
      if a2 ≤ (9 : Int32) then (
        if a3 < (2 : Int32) then (
          some ((-2 : Int32), σ2)
        ) else (
          if a3 ≤ (20 : Int32) then (
            (sGetR a0 7 0 σ2).bind fun x8 =>
            (sObj x8 3 σ2).bind fun _ =>
            bnd (m_X3_freeMachine x8 σ2) fun r9 σ10 =>
            if r9 = none then (
              some ((-3 : Int32), σ10)
            ) else (
              (sGetR a0 7 4 σ10).bind fun x12 =>
              (sGetR a0 7 0 σ10).bind fun x13 =>
              (sObj x12 0 σ10).bind fun _ =>
              bnd (m_X0_keep x12 x13 σ10) fun _ σ14 =>
              (sObj r9 2 σ14).bind fun _ =>
              bnd (m_X2_put r9 a1 a2 a3 σ14) fun _ σ15 =>
              (sGetI r9 2 0 σ15).bind fun x16 =>
              some (x16, σ15)
            )
          ) else (
            some ((-2 : Int32), σ2)
          )
        )
      ) else (
        some ((-2 : Int32), σ2)
      )
    )
  )
def rmX8_lamp : Room := { frames := 4, cells := 0, slots := 0, locals := 86 }
def m_X8_lamp (a0 : Option Nat) (a1 : Int32) (a2 : Int32) (a3 : Int32) (σ : SG) : Option (Int32 × SG) :=
  bnd (m_X8_isWire a1 σ) fun r1 σ2 =>
  if r1 = 0 then (
    some ((-1 : Int32), σ2)
  ) else (
    if a2 < 0 then (
      some ((-2 : Int32), σ2)
    ) else (
      if (4 : Int32) ≤ a2 then (
        some ((-2 : Int32), σ2)
      ) else (
        if a3 < 0 then (
          some ((-2 : Int32), σ2)
        ) else (
          if a3 < (4 : Int32) then (
            (sGetR a0 7 0 σ2).bind fun x8 =>
            (sObj x8 3 σ2).bind fun _ =>
            bnd (m_X3_freeLamp x8 σ2) fun r9 σ10 =>
            if r9 = none then (
              some ((-3 : Int32), σ10)
            ) else (
              (sGetR a0 7 4 σ10).bind fun x12 =>
              (sGetR a0 7 0 σ10).bind fun x13 =>
              (sObj x12 0 σ10).bind fun _ =>
              bnd (m_X0_keep x12 x13 σ10) fun _ σ14 =>
              (sObj r9 1 σ14).bind fun _ =>
              bnd (m_X1_put r9 a1 a2 a3 σ14) fun _ σ15 =>
              (sGetI r9 1 0 σ15).bind fun x16 =>
              some (x16, σ15)
            )
          ) else (
            some ((-2 : Int32), σ2)
          )
        )
      )
    )
  )
def rmX8_remove : Room := { frames := 4, cells := 0, slots := 0, locals := 86 }
def m_X8_remove (a0 : Option Nat) (a1 : Int32) (a2 : Int32) (σ : SG) : Option (Int32 × SG) :=
  (sGetR a0 7 0 σ).bind fun x1 =>
  (sObj x1 3 σ).bind fun _ =>
  bnd (m_X3_thingsOf x1 a1 σ) fun r2 σ3 =>
  if r2 = none then (
    some ((-2 : Int32), σ3)
  ) else (
    bnd (m_X8_presentAt r2 a2 σ3) fun r5 σ6 =>
    if r5 = none then (
      some ((-1 : Int32), σ6)
    ) else (
      (sGetR a0 7 4 σ6).bind fun x8 =>
      (sGetR a0 7 0 σ6).bind fun x9 =>
      (sObj x8 0 σ6).bind fun _ =>
      bnd (m_X0_keep x8 x9 σ6) fun _ σ10 =>
      (sPutZT r5 [1, 2, 6] 1 (0 : Int32) σ10).bind fun σ11 =>
      (sGetIT r5 [1, 2, 6] 2 σ11).bind fun x12 =>
      some (x12, σ11)
    )
  )
def rmX8_say : Room := { frames := 4, cells := 0, slots := 0, locals := 86 }
def m_X8_say (a0 : Option Nat) (a1 : Int32) (a2 : Int32) (σ : SG) : Option (Int32 × SG) :=
  (sGetR a0 7 0 σ).bind fun x1 =>
  (sObj x1 3 σ).bind fun _ =>
  bnd (m_X3_refusalOfWord x1 a1 a2 σ) fun r2 σ3 =>
  if 0 ≤ r2 then (
    (sGetR a0 7 4 σ3).bind fun x5 =>
    (sGetR a0 7 0 σ3).bind fun x6 =>
    (sObj x5 0 σ3).bind fun _ =>
    bnd (m_X0_keep x5 x6 σ3) fun _ σ7 =>
    (sGetR a0 7 0 σ7).bind fun x8 =>
    (sObj x8 3 σ7).bind fun _ =>
    bnd (m_X3_giveWord x8 a1 a2 σ7) fun r9 σ10 =>
    some (r9, σ10)
  ) else (
    some (r2, σ3)
  )
def rmX8_run : Room := { frames := 4, cells := 0, slots := 0, locals := 86 }
def m_X8_run (a0 : Option Nat) (a1 : Int32) (a2 : Int32) (σ : SG) : Option (Int32 × SG) :=
  (sGetR a0 7 0 σ).bind fun x1 =>
  (sObj x1 3 σ).bind fun _ =>
  bnd (m_X3_machineAt x1 a1 σ) fun r2 σ3 =>
  if r2 = none then (
    some ((-1 : Int32), σ3)
  ) else (
    (sGetR a0 7 4 σ3).bind fun x5 =>
    (sGetR a0 7 0 σ3).bind fun x6 =>
    (sObj x5 0 σ3).bind fun _ =>
    bnd (m_X0_keep x5 x6 σ3) fun _ σ7 =>
    (sGetI r2 2 5 σ7).bind fun x8 =>
    bnd (m_X8_asNumber x8 σ7) fun r9 σ10 =>
    (sPutZ r2 2 5 a2 σ10).bind fun σ11 =>
    some (r9, σ11)
  )
def rmX8_set : Room := { frames := 4, cells := 0, slots := 0, locals := 86 }
def m_X8_set (a0 : Option Nat) (a1 : Int32) (a2 : Int32) (σ : SG) : Option (Int32 × SG) :=
  if a1 < 0 then (
    some ((-1 : Int32), σ)
  ) else (
    if a1 < (4 : Int32) then (
      (lstI a1).bind fun x3 =>
      if a2 < x3 then (
        some ((-2 : Int32), σ)
      ) else (
        (mstI a1).bind fun x5 =>
        if a2 ≤ x5 then (
          (sGetR a0 7 4 σ).bind fun x7 =>
          (sGetR a0 7 0 σ).bind fun x8 =>
          (sObj x7 0 σ).bind fun _ =>
          bnd (m_X0_keep x7 x8 σ) fun _ σ9 =>
          (sGetR a0 7 0 σ9).bind fun x10 =>
          (sGetR x10 3 4 σ9).bind fun x11 =>
          (sAld x11 1 a1 σ9).bind fun x12 =>
          (sGetR a0 7 0 σ9).bind fun x13 =>
          (sGetR x13 3 4 σ9).bind fun x14 =>
          (sAst x14 1 a1 a2 σ9).bind fun σ15 =>
          some (x12, σ15)
        ) else (
          some ((-2 : Int32), σ)
        )
      )
    ) else (
      some ((-1 : Int32), σ)
    )
  )
def rmX8_pass : Room := { frames := 6, cells := 0, slots := 0, locals := 139 }
def m_X8_pass (a0 : Option Nat) (a1 : Int32) (σ : SG) : Option (Int32 × SG) :=
  if a1 < (1 : Int32) then (
    some ((-2 : Int32), σ)
  ) else (
    if a1 ≤ (99 : Int32) then (
      (sGetR a0 7 4 σ).bind fun x3 =>
      (sGetR a0 7 0 σ).bind fun x4 =>
      (sObj x3 0 σ).bind fun _ =>
      bnd (m_X0_keep x3 x4 σ) fun _ σ5 =>
      (sGetR a0 7 0 σ5).bind fun x6 =>
      (sObj x6 3 σ5).bind fun _ =>
      bnd (m_X3_letPass x6 a1 σ5) fun r7 σ8 =>
      some (r7, σ8)
    ) else (
      some ((-2 : Int32), σ)
    )
  )
def rmX8_undo : Room := { frames := 4, cells := 0, slots := 0, locals := 86 }
def m_X8_undo (a0 : Option Nat) (σ : SG) : Option (Int32 × SG) :=
  (sGetR a0 7 4 σ).bind fun x1 =>
  (sObj x1 0 σ).bind fun _ =>
  bnd (m_X0_isEmpty x1 σ) fun r2 σ3 =>
  if r2 = 0 then (
    (sGetR a0 7 4 σ3).bind fun x5 =>
    (sGetR a0 7 0 σ3).bind fun x6 =>
    (sObj x5 0 σ3).bind fun _ =>
    bnd (m_X0_takeBack x5 x6 σ3) fun _ σ7 =>
    (sGetR a0 7 4 σ7).bind fun x8 =>
    (sGetI x8 0 1 σ7).bind fun x9 =>
    some (x9, σ7)
  ) else (
    some ((-5 : Int32), σ3)
  )
def rmX8_save : Room := { frames := 3, cells := 0, slots := 0, locals := 65 }
def m_X8_save (a0 : Option Nat) (σ : SG) : Option (Int32 × SG) :=
  (sGetR a0 7 2 σ).bind fun x1 =>
  (sGetR a0 7 0 σ).bind fun x2 =>
  (sObj x1 3 σ).bind fun _ =>
  bnd (m_X3_copyFrom x1 x2 σ) fun _ σ3 =>
  (sPutZ a0 7 3 (1 : Int32) σ3).bind fun σ4 =>
  (sGetR a0 7 0 σ4).bind fun x5 =>
  (sGetI x5 3 6 σ4).bind fun x6 =>
  some (x6, σ4)
def rmX8_restore : Room := { frames := 4, cells := 0, slots := 0, locals := 86 }
def m_X8_restore (a0 : Option Nat) (σ : SG) : Option (Int32 × SG) :=
  (sGetI a0 7 3 σ).bind fun x1 =>
  if x1 = 0 then (
    some ((-4 : Int32), σ)
  ) else (
    (sGetR a0 7 4 σ).bind fun x3 =>
    (sGetR a0 7 0 σ).bind fun x4 =>
    (sObj x3 0 σ).bind fun _ =>
    bnd (m_X0_keep x3 x4 σ) fun _ σ5 =>
    (sGetR a0 7 0 σ5).bind fun x6 =>
    (sGetR a0 7 2 σ5).bind fun x7 =>
    (sObj x6 3 σ5).bind fun _ =>
    bnd (m_X3_copyFrom x6 x7 σ5) fun _ σ8 =>
    (sGetR a0 7 0 σ8).bind fun x9 =>
    (sGetI x9 3 6 σ8).bind fun x10 =>
    some (x10, σ8)
  )
def rmX8_senderOf : Room := { frames := 2, cells := 0, slots := 0, locals := 44 }
def m_X8_senderOf (a0 : Option Nat) (a1 : Int32) (a2 : Int32) (σ : SG) : Option (Int32 × SG) :=
  (sGetR a0 7 0 σ).bind fun x1 =>
  (sObj x1 3 σ).bind fun _ =>
  bnd (m_X3_senderAt x1 a1 σ) fun r2 σ3 =>
  if r2 = none then (
    some ((-1 : Int32), σ3)
  ) else (
    swK a2 [
      (0, (
        (sGetI r2 6 2 σ3).bind fun x5 =>
        some (x5, σ3)
      )),
      (1, (
        (sGetI r2 6 5 σ3).bind fun x6 =>
        some (x6, σ3)
      )),
      (2, (
        (sGetI r2 6 4 σ3).bind fun x7 =>
        some (x7, σ3)
      )),
      (3, (
        (sGetI r2 6 6 σ3).bind fun x8 =>
        if x8 = 0 then (
          some ((-5 : Int32), σ3)
        ) else (
          (sGetI r2 6 8 σ3).bind fun x10 =>
          some (x10, σ3)
        )
      )),
      (4, (
        (sGetI r2 6 6 σ3).bind fun x11 =>
        if x11 = 0 then (
          some ((-5 : Int32), σ3)
        ) else (
          (sGetI r2 6 7 σ3).bind fun x13 =>
          some (x13, σ3)
        )
      )),
      (5, (
        (sGetI r2 6 9 σ3).bind fun x14 =>
        some (x14, σ3)
      )),
      (6, (
        (sGetI r2 6 6 σ3).bind fun x15 =>
        if x15 = 0 then (
          some ((-5 : Int32), σ3)
        ) else (
          (sObj r2 6 σ3).bind fun _ =>
          bnd (m_X6_bitToSend r2 σ3) fun r17 σ18 =>
          some (r17, σ18)
        )
      ))
    ] (
      some ((-2 : Int32), σ3)
    )
  )
def rmX8_queued : Room := { frames := 2, cells := 0, slots := 0, locals := 44 }
def m_X8_queued (a0 : Option Nat) (a1 : Int32) (a2 : Int32) (σ : SG) : Option (Int32 × SG) :=
  (sGetR a0 7 0 σ).bind fun x1 =>
  (sObj x1 3 σ).bind fun _ =>
  bnd (m_X3_senderAt x1 a1 σ) fun r2 σ3 =>
  if r2 = none then (
    some ((-1 : Int32), σ3)
  ) else (
    if 0 ≤ a2 then (
      (sObj r2 6 σ3).bind fun _ =>
      bnd (m_X6_wordAt r2 a2 σ3) fun r6 σ7 =>
      some (r6, σ7)
    ) else (
      some ((-2 : Int32), σ3)
    )
  )
def rmX8_machineOf : Room := { frames := 2, cells := 0, slots := 0, locals := 44 }
def m_X8_machineOf (a0 : Option Nat) (a1 : Int32) (a2 : Int32) (σ : SG) : Option (Int32 × SG) :=
  (sGetR a0 7 0 σ).bind fun x1 =>
  (sObj x1 3 σ).bind fun _ =>
  bnd (m_X3_machineAt x1 a1 σ) fun r2 σ3 =>
  if r2 = none then (
    some ((-1 : Int32), σ3)
  ) else (
    swK a2 [
      (0, (
        (sGetI r2 2 2 σ3).bind fun x5 =>
        some (x5, σ3)
      )),
      (1, (
        (sGetI r2 2 3 σ3).bind fun x6 =>
        some (x6, σ3)
      )),
      (2, (
        (sGetI r2 2 4 σ3).bind fun x7 =>
        some (x7, σ3)
      )),
      (3, (
        (sGetI r2 2 5 σ3).bind fun x8 =>
        bnd (m_X8_asNumber x8 σ3) fun r9 σ10 =>
        some (r9, σ10)
      ))
    ] (
      some ((-2 : Int32), σ3)
    )
  )
def rmX8_lampOf : Room := { frames := 2, cells := 0, slots := 0, locals := 44 }
def m_X8_lampOf (a0 : Option Nat) (a1 : Int32) (a2 : Int32) (σ : SG) : Option (Int32 × SG) :=
  (sGetR a0 7 0 σ).bind fun x1 =>
  (sObj x1 3 σ).bind fun _ =>
  bnd (m_X3_lampAt x1 a1 σ) fun r2 σ3 =>
  if r2 = none then (
    some ((-1 : Int32), σ3)
  ) else (
    swK a2 [
      (0, (
        (sGetI r2 1 2 σ3).bind fun x5 =>
        some (x5, σ3)
      )),
      (1, (
        (sGetI r2 1 3 σ3).bind fun x6 =>
        some (x6, σ3)
      )),
      (2, (
        (sGetI r2 1 4 σ3).bind fun x7 =>
        some (x7, σ3)
      )),
      (3, (
        (sGetI r2 1 5 σ3).bind fun x8 =>
        some (x8, σ3)
      )),
      (4, (
        (sGetI r2 1 6 σ3).bind fun x9 =>
        bnd (m_X8_asNumber x9 σ3) fun r10 σ11 =>
        some (r10, σ11)
      ))
    ] (
      some ((-2 : Int32), σ3)
    )
  )
def rmX8_receiver : Room := { frames := 1, cells := 0, slots := 0, locals := 20 }
def m_X8_receiver (a0 : Option Nat) (a1 : Int32) (a2 : Int32) (σ : SG) : Option (Int32 × SG) :=
  bnd (m_X8_isWire a1 σ) fun r1 σ2 =>
  if r1 = 0 then (
    some ((-1 : Int32), σ2)
  ) else (
    (sGetR a0 7 0 σ2).bind fun x4 =>
    (sGetR x4 3 3 σ2).bind fun x5 =>
    (sAldR x5 a1 σ2).bind fun x6 =>
    swK a2 [
      (0, (
        (sGetI x6 4 0 σ2).bind fun x7 =>
        if x7 = 0 then (
          some ((-5 : Int32), σ2)
        ) else (
          (sGetI x6 4 2 σ2).bind fun x9 =>
          some (x9, σ2)
        )
      )),
      (1, (
        (sGetI x6 4 0 σ2).bind fun x10 =>
        if x10 = 0 then (
          (sGetI x6 4 1 σ2).bind fun x12 =>
          some (x12, σ2)
        ) else (
          some ((-5 : Int32), σ2)
        )
      )),
      (2, (
        (sGetI x6 4 4 σ2).bind fun x13 =>
        some (x13, σ2)
      )),
      (3, (
        (sGetI x6 4 4 σ2).bind fun x14 =>
        if x14 = (-5 : Int32) then (
          some ((-5 : Int32), σ2)
        ) else (
          (sGetR a0 7 0 σ2).bind fun x16 =>
          (sGetI x16 3 6 σ2).bind fun x17 =>
          (sGetI x6 4 5 σ2).bind fun x18 =>
          some ((x17 - x18), σ2)
        )
      )),
      (4, (
        (sGetI x6 4 6 σ2).bind fun x19 =>
        some (x19, σ2)
      ))
    ] (
      some ((-2 : Int32), σ2)
    )
  )
def rmX8_frame : Room := { frames := 1, cells := 0, slots := 0, locals := 23 }
def m_X8_frame (a0 : Option Nat) (a1 : Int32) (a2 : Int32) (σ : SG) : Option (Int32 × SG) :=
  bnd (m_X8_isWord a1 σ) fun r1 σ2 =>
  if r1 = 0 then (
    some ((-2 : Int32), σ2)
  ) else (
    if a2 < 0 then (
      some ((-2 : Int32), σ2)
    ) else (
      if a2 < (14 : Int32) then (
        bnd (m_X8_frameBit a1 a2 σ2) fun r6 σ7 =>
        some (r6, σ7)
      ) else (
        some ((-2 : Int32), σ2)
      )
    )
  )
def rmX8_loss : Room := { frames := 1, cells := 0, slots := 0, locals := 24 }
def m_X8_loss (a0 : Option Nat) (a1 : Int32) (a2 : Int32) (σ : SG) : Option (Int32 × SG) :=
  bnd (m_X8_isWire a1 σ) fun r1 σ2 =>
  if r1 = 0 then (
    some ((-1 : Int32), σ2)
  ) else (
    bnd (m_X8_isWire a2 σ2) fun r4 σ5 =>
    if r4 = 0 then (
      some ((-1 : Int32), σ5)
    ) else (
      (sGetR a0 7 0 σ5).bind fun x7 =>
      (sObj x7 3 σ5).bind fun _ =>
      bnd (m_X3_lossBetween x7 a1 a2 σ5) fun r8 σ9 =>
      some (r8, σ9)
    )
  )
def rmX8_presentIn : Room := { frames := 1, cells := 0, slots := 0, locals := 20 }
def m_X8_presentIn_B10 (rec10 : Int32 → Option Nat → Int32 → Int32 → SG → Option (Int32 × SG)) (v1 : Int32) (v2 : Option Nat) (v3 : Int32) (v4 : Int32) (σ : SG) : Option (Int32 × SG) :=
  if v3 ≤ v4 then (
    some (v1, σ)
  ) else (
    (sAldR v2 v4 σ).bind fun x2 =>
    (sGetIT x2 [1, 2, 6] 1 σ).bind fun x3 =>
    bnd (m_X8_asNumber x3 σ) fun r4 σ5 =>
    rec10 ((v1 + r4)) v2 v3 ((v4 + 1)) σ5
  )
def m_X8_presentIn_L10 (n : Nat) : Int32 → Option Nat → Int32 → Int32 → SG → Option (Int32 × SG) := itF (fun _ _ _ _ _ => none) (m_X8_presentIn_B10 ) n
def m_X8_presentIn (a0 : Option Nat) (σ : SG) : Option (Int32 × SG) :=
  (sLen a0 σ).bind fun x6 =>
  m_X8_presentIn_L10 1000 ((0 : Int32)) a0 x6 ((0 : Int32)) σ
def rmX8_count : Room := { frames := 2, cells := 0, slots := 0, locals := 45 }
def m_X8_count (a0 : Option Nat) (a1 : Int32) (σ : SG) : Option (Int32 × SG) :=
  swK a1 [
    (0, (
      (sGetR a0 7 0 σ).bind fun x1 =>
      (sGetI x1 3 6 σ).bind fun x2 =>
      some (x2, σ)
    )),
    (1, (
      (sGetR a0 7 0 σ).bind fun x3 =>
      (sGetR x3 3 0 σ).bind fun x4 =>
      bnd (m_X8_presentIn x4 σ) fun r5 σ6 =>
      some (r5, σ6)
    )),
    (2, (
      (sGetR a0 7 0 σ).bind fun x7 =>
      (sGetR x7 3 1 σ).bind fun x8 =>
      bnd (m_X8_presentIn x8 σ) fun r9 σ10 =>
      some (r9, σ10)
    )),
    (3, (
      (sGetR a0 7 0 σ).bind fun x11 =>
      (sGetR x11 3 2 σ).bind fun x12 =>
      bnd (m_X8_presentIn x12 σ) fun r13 σ14 =>
      some (r13, σ14)
    )),
    (4, (
      (sGetR a0 7 0 σ).bind fun x15 =>
      (sObj x15 3 σ).bind fun _ =>
      bnd (m_X3_speakingSenders x15 σ) fun r16 σ17 =>
      some (r16, σ17)
    )),
    (5, (
      (sGetR a0 7 0 σ).bind fun x18 =>
      (sObj x18 3 σ).bind fun _ =>
      bnd (m_X3_queuedWords x18 σ) fun r19 σ20 =>
      some (r19, σ20)
    )),
    (6, (
      (sGetR a0 7 0 σ).bind fun x21 =>
      (sObj x21 3 σ).bind fun _ =>
      bnd (m_X3_litLamps x21 σ) fun r22 σ23 =>
      some (r22, σ23)
    )),
    (7, (
      (sGetR a0 7 0 σ).bind fun x24 =>
      (sGetR x24 3 4 σ).bind fun x25 =>
      (sAld x25 1 (0 : Int32) σ).bind fun x26 =>
      some (x26, σ)
    )),
    (8, (
      (sGetR a0 7 0 σ).bind fun x27 =>
      (sGetR x27 3 4 σ).bind fun x28 =>
      (sAld x28 1 (1 : Int32) σ).bind fun x29 =>
      some (x29, σ)
    )),
    (9, (
      (sGetR a0 7 0 σ).bind fun x30 =>
      (sGetR x30 3 4 σ).bind fun x31 =>
      (sAld x31 1 (2 : Int32) σ).bind fun x32 =>
      some (x32, σ)
    )),
    (10, (
      (sGetR a0 7 0 σ).bind fun x33 =>
      (sGetR x33 3 4 σ).bind fun x34 =>
      (sAld x34 1 (3 : Int32) σ).bind fun x35 =>
      some (x35, σ)
    )),
    (11, (
      (sGetR a0 7 4 σ).bind fun x36 =>
      (sGetI x36 0 1 σ).bind fun x37 =>
      some (x37, σ)
    )),
    (12, (
      (sGetR a0 7 5 σ).bind fun x38 =>
      (sGetI x38 5 1 σ).bind fun x39 =>
      some (x39, σ)
    ))
  ] (
    some ((-2 : Int32), σ)
  )
def rmX8_total : Room := { frames := 0, cells := 0, slots := 0, locals := 0 }
def m_X8_total (a0 : Option Nat) (a1 : Int32) (σ : SG) : Option (Int32 × SG) :=
  if a1 < 0 then (
    some ((-2 : Int32), σ)
  ) else (
    if a1 < (5 : Int32) then (
      (sGetR a0 7 0 σ).bind fun x3 =>
      (sGetR x3 3 5 σ).bind fun x4 =>
      (sAld x4 1 a1 σ).bind fun x5 =>
      some (x5, σ)
    ) else (
      some ((-2 : Int32), σ)
    )
  )
def rmX8_silentIn : Room := { frames := 5, cells := 0, slots := 0, locals := 116 }
def m_X8_silentIn_B13 (rec13 : Option Nat → Int32 → SG → Option (Int32 × SG)) (v0 : Option Nat) (v1 : Int32) (σ : SG) : Option (Int32 × SG) :=
  if (600 : Int32) < v1 then (
    some ((-5 : Int32), σ)
  ) else (
    (sGetR v0 7 1 σ).bind fun x2 =>
    (sObj x2 3 σ).bind fun _ =>
    bnd (m_X3_queuedWords x2 σ) fun r3 σ4 =>
    if r3 = 0 then (
      some (v1, σ4)
    ) else (
      (sGetR v0 7 1 σ4).bind fun x6 =>
      (sObj x6 3 σ4).bind fun _ =>
      bnd (m_X3_beat x6 σ4) fun r7 σ8 =>
      rec13 v0 ((v1 + 1)) σ8
    )
  )
def m_X8_silentIn_L13 (n : Nat) : Option Nat → Int32 → SG → Option (Int32 × SG) := itF (fun _ _ _ => none) (m_X8_silentIn_B13 ) n
def m_X8_silentIn (a0 : Option Nat) (σ : SG) : Option (Int32 × SG) :=
  (sGetR a0 7 1 σ).bind fun x9 =>
  (sGetR a0 7 0 σ).bind fun x10 =>
  (sObj x9 3 σ).bind fun _ =>
  bnd (m_X3_copyFrom x9 x10 σ) fun _ σ11 =>
  m_X8_silentIn_L13 1000 a0 ((0 : Int32)) σ11
def rmX8_levelIn : Room := { frames := 6, cells := 0, slots := 0, locals := 139 }
def m_X8_levelIn (a0 : Option Nat) (a1 : Int32) (a2 : Int32) (σ : SG) : Option (Int32 × SG) :=
  (sGetR a0 7 0 σ).bind fun x1 =>
  (sObj x1 3 σ).bind fun _ =>
  bnd (m_X3_lampAt x1 a1 σ) fun r2 σ3 =>
  if r2 = none then (
    some ((-1 : Int32), σ3)
  ) else (
    if a2 < 0 then (
      some ((-2 : Int32), σ3)
    ) else (
      if a2 ≤ (400 : Int32) then (
        (sGetR a0 7 1 σ3).bind fun x7 =>
        (sGetR a0 7 0 σ3).bind fun x8 =>
        (sObj x7 3 σ3).bind fun _ =>
        bnd (m_X3_copyFrom x7 x8 σ3) fun _ σ9 =>
        (sGetR a0 7 1 σ9).bind fun x10 =>
        (sObj x10 3 σ9).bind fun _ =>
        bnd (m_X3_letPass x10 a2 σ9) fun r11 σ12 =>
        (sGetR a0 7 1 σ12).bind fun x13 =>
        (sObj x13 3 σ12).bind fun _ =>
        bnd (m_X3_lampAt x13 a1 σ12) fun r14 σ15 =>
        if r14 = none then (
          some ((-1 : Int32), σ15)
        ) else (
          (sGetI r14 1 5 σ15).bind fun x17 =>
          some (x17, σ15)
        )
      ) else (
        some ((-2 : Int32), σ3)
      )
    )
  )
def rmX8_freshness : Room := { frames := 0, cells := 0, slots := 0, locals := 0 }
def m_X8_freshness (a0 : Option Nat) (σ : SG) : Option (UInt32 × SG) :=
  (sGetR a0 7 0 σ).bind fun x1 =>
  (sGetR x1 3 5 σ).bind fun x2 =>
  (sAld x2 1 (2 : Int32) σ).bind fun x3 =>
  (sGetR a0 7 0 σ).bind fun x4 =>
  (sGetR x4 3 5 σ).bind fun x5 =>
  (sAld x5 1 (3 : Int32) σ).bind fun x6 =>
  (sGetR a0 7 0 σ).bind fun x7 =>
  (sGetR x7 3 5 σ).bind fun x8 =>
  (sAld x8 1 (4 : Int32) σ).bind fun x9 =>
  if ((x3 + x6) + x9) = 0 then (
    some (FP.fconst0, σ)
  ) else (
    (sGetR a0 7 0 σ).bind fun x11 =>
    (sGetR x11 3 5 σ).bind fun x12 =>
    (sAld x12 1 (2 : Int32) σ).bind fun x13 =>
    (sFdiv (FP.i2f x13) (FP.i2f ((x3 + x6) + x9))).bind fun f14 =>
    some (f14, σ)
  )
def rmL_areThings : Room := { frames := 7, cells := 0, slots := 0, locals := 162 }
def m_L_areThings_b453 (v0 : Option Nat) (v1 : Int32) (v2 : Int32) (v3 : Int32) (v4 : Int32) (v5 : Int32) (v6 : Int32) (v7 : Int32) (σ : SG) : Option (Int32 × SG) :=
  if v7 = 0 then (
    chkZ (0 : Int32) σ
  ) else (
    (sObj v0 7 σ).bind fun _ =>
    bnd (m_X8_count v0 (1 : Int32) σ) fun r2 σ3 =>
    if v1 = r2 then (
      (sObj v0 7 σ3).bind fun _ =>
      bnd (m_X8_count v0 (2 : Int32) σ3) fun r5 σ6 =>
      if v4 = r5 then (
        (sObj v0 7 σ6).bind fun _ =>
        bnd (m_X8_count v0 (3 : Int32) σ6) fun r8 σ9 =>
        if v5 = r8 then (
          (sObj v0 7 σ9).bind fun _ =>
          bnd (m_X8_count v0 (4 : Int32) σ9) fun r11 σ12 =>
          if v2 = r11 then (
            (sObj v0 7 σ12).bind fun _ =>
            bnd (m_X8_count v0 (5 : Int32) σ12) fun r14 σ15 =>
            if v3 = r14 then (
              (sObj v0 7 σ15).bind fun _ =>
              bnd (m_X8_count v0 (6 : Int32) σ15) fun r17 σ18 =>
              if v6 = r17 then (
                chkZ (1 : Int32) σ18
              ) else (
                chkZ (0 : Int32) σ18
              )
            ) else (
              chkZ (0 : Int32) σ15
            )
          ) else (
            chkZ (0 : Int32) σ12
          )
        ) else (
          chkZ (0 : Int32) σ9
        )
      ) else (
        chkZ (0 : Int32) σ6
      )
    ) else (
      chkZ (0 : Int32) σ3
    )
  )
def m_L_areThings_b447 (rec346 : Option Nat → Int32 → Int32 → Int32 → Int32 → Int32 → Int32 → Int32 → Int32 → SG → Option (Int32 × SG)) (v0 : Option Nat) (v1 : Int32) (v2 : Int32) (v3 : Int32) (v4 : Int32) (v5 : Int32) (v6 : Int32) (v7 : Int32) (v8 : Int32) (σ : SG) : Option (Int32 × SG) :=
  rec346 v0 v1 v2 v3 v4 v5 v6 v7 ((v8 + 1)) σ
def m_L_areThings_b445 (rec346 : Option Nat → Int32 → Int32 → Int32 → Int32 → Int32 → Int32 → Int32 → Int32 → SG → Option (Int32 × SG)) (v0 : Option Nat) (v1 : Int32) (v2 : Int32) (v3 : Int32) (v4 : Int32) (v5 : Int32) (v6 : Int32) (v8 : Int32) (s0 : Int32) (σ : SG) : Option (Int32 × SG) :=
  m_L_areThings_b447 rec346 v0 v1 v2 v3 v4 v5 v6 s0 v8 σ
def m_L_areThings_b444 (rec346 : Option Nat → Int32 → Int32 → Int32 → Int32 → Int32 → Int32 → Int32 → Int32 → SG → Option (Int32 × SG)) (v0 : Option Nat) (v1 : Int32) (v2 : Int32) (v3 : Int32) (v4 : Int32) (v5 : Int32) (v6 : Int32) (v8 : Int32) (σ : SG) : Option (Int32 × SG) :=
  m_L_areThings_b445 rec346 v0 v1 v2 v3 v4 v5 v6 v8 ((0 : Int32)) σ
def m_L_areThings_b392 (rec346 : Option Nat → Int32 → Int32 → Int32 → Int32 → Int32 → Int32 → Int32 → Int32 → SG → Option (Int32 × SG)) (v0 : Option Nat) (v1 : Int32) (v2 : Int32) (v3 : Int32) (v4 : Int32) (v5 : Int32) (v8 : Int32) (v9 : Int32) (s0 : Int32) (s1 : Int32) (σ : SG) : Option (Int32 × SG) :=
  if v9 < 0 then (
    m_L_areThings_b444 rec346 v0 v1 v2 v3 v4 v5 ((s0 + s1)) v8 σ
  ) else (
    if (9 : Int32) < v9 then (
      m_L_areThings_b444 rec346 v0 v1 v2 v3 v4 v5 ((s0 + s1)) v8 σ
    ) else (
      (sObj v0 7 σ).bind fun _ =>
      bnd (m_X8_lampOf v0 v8 (4 : Int32) σ) fun r22 σ23 =>
      if r22 < 0 then (
        m_L_areThings_b444 rec346 v0 v1 v2 v3 v4 v5 ((s0 + s1)) v8 σ23
      ) else (
        (sObj v0 7 σ23).bind fun _ =>
        bnd (m_X8_lampOf v0 v8 (4 : Int32) σ23) fun r25 σ26 =>
        if (1 : Int32) < r25 then (
          m_L_areThings_b444 rec346 v0 v1 v2 v3 v4 v5 ((s0 + s1)) v8 σ26
        ) else (
          (sObj v0 7 σ26).bind fun _ =>
          bnd (m_X8_levelIn v0 v8 (0 : Int32) σ26) fun r28 σ29 =>
          if r28 = v9 then (
            m_L_areThings_b445 rec346 v0 v1 v2 v3 v4 v5 ((s0 + s1)) v8 ((1 : Int32)) σ29
          ) else (
            m_L_areThings_b444 rec346 v0 v1 v2 v3 v4 v5 ((s0 + s1)) v8 σ29
          )
        )
      )
    )
  )
def m_L_areThings_B346 (rec346 : Option Nat → Int32 → Int32 → Int32 → Int32 → Int32 → Int32 → Int32 → Int32 → SG → Option (Int32 × SG)) (v0 : Option Nat) (v1 : Int32) (v2 : Int32) (v3 : Int32) (v4 : Int32) (v5 : Int32) (v6 : Int32) (v7 : Int32) (v8 : Int32) (σ : SG) : Option (Int32 × SG) :=
  if (8 : Int32) ≤ v8 then (
    m_L_areThings_b453 v0 v1 v2 v3 v4 v5 v6 v7 σ
  ) else (
    if v7 = 0 then (
      m_L_areThings_b453 v0 v1 v2 v3 v4 v5 v6 v7 σ
    ) else (
      (sObj v0 7 σ).bind fun _ =>
      bnd (m_X8_lampOf v0 v8 (0 : Int32) σ) fun r33 σ34 =>
      if r33 < 0 then (
        m_L_areThings_b447 rec346 v0 v1 v2 v3 v4 v5 v6 v7 v8 σ34
      ) else (
        (sObj v0 7 σ34).bind fun _ =>
        bnd (m_X8_lampOf v0 v8 (3 : Int32) σ34) fun r36 σ37 =>
        if r36 ≤ 0 then (
          m_L_areThings_b392 rec346 v0 v1 v2 v3 v4 ((v5 + 1)) v8 r36 v6 ((0 : Int32)) σ37
        ) else (
          m_L_areThings_b392 rec346 v0 v1 v2 v3 v4 ((v5 + 1)) v8 r36 v6 ((1 : Int32)) σ37
        )
      )
    )
  )
def m_L_areThings_L346 (n : Nat) : Option Nat → Int32 → Int32 → Int32 → Int32 → Int32 → Int32 → Int32 → Int32 → SG → Option (Int32 × SG) := itF (fun _ _ _ _ _ _ _ _ _ _ => none) (m_L_areThings_B346 ) n
def m_L_areThings_b334 (rec311 : Option Nat → Int32 → Int32 → Int32 → Int32 → Int32 → Int32 → Int32 → Int32 → SG → Option (Int32 × SG)) (v0 : Option Nat) (v1 : Int32) (v2 : Int32) (v3 : Int32) (v5 : Int32) (v6 : Int32) (v7 : Int32) (v8 : Int32) (s0 : Int32) (s1 : Int32) (σ : SG) : Option (Int32 × SG) :=
  rec311 v0 v1 v2 v3 ((s0 + s1)) v5 v6 v7 ((v8 + 1)) σ
def m_L_areThings_B311 (rec311 : Option Nat → Int32 → Int32 → Int32 → Int32 → Int32 → Int32 → Int32 → Int32 → SG → Option (Int32 × SG)) (v0 : Option Nat) (v1 : Int32) (v2 : Int32) (v3 : Int32) (v4 : Int32) (v5 : Int32) (v6 : Int32) (v7 : Int32) (v8 : Int32) (σ : SG) : Option (Int32 × SG) :=
  if (4 : Int32) ≤ v8 then (
    m_L_areThings_L346 1000 v0 v1 v2 v3 v4 v5 v6 v7 ((0 : Int32)) σ
  ) else (
    (sObj v0 7 σ).bind fun _ =>
    bnd (m_X8_machineOf v0 v8 (0 : Int32) σ) fun r40 σ41 =>
    if r40 < 0 then (
      m_L_areThings_b334 rec311 v0 v1 v2 v3 v5 v6 v7 v8 v4 ((0 : Int32)) σ41
    ) else (
      m_L_areThings_b334 rec311 v0 v1 v2 v3 v5 v6 v7 v8 v4 ((1 : Int32)) σ41
    )
  )
def m_L_areThings_L311 (n : Nat) : Option Nat → Int32 → Int32 → Int32 → Int32 → Int32 → Int32 → Int32 → Int32 → SG → Option (Int32 × SG) := itF (fun _ _ _ _ _ _ _ _ _ _ => none) (m_L_areThings_B311 ) n
def m_L_areThings_b308 (v0 : Option Nat) (v1 : Int32) (v2 : Int32) (v3 : Int32) (v4 : Int32) (v5 : Int32) (v6 : Int32) (v7 : Int32) (σ : SG) : Option (Int32 × SG) :=
  m_L_areThings_L311 1000 v0 v1 v2 v3 v4 v5 v6 v7 ((0 : Int32)) σ
def m_L_areThings_b302 (rec67 : Option Nat → Int32 → Int32 → Int32 → Int32 → Int32 → Int32 → Int32 → Int32 → SG → Option (Int32 × SG)) (v0 : Option Nat) (v1 : Int32) (v2 : Int32) (v3 : Int32) (v4 : Int32) (v5 : Int32) (v6 : Int32) (v7 : Int32) (v8 : Int32) (σ : SG) : Option (Int32 × SG) :=
  rec67 v0 v1 v2 v3 v4 v5 v6 v7 ((v8 + 1)) σ
def m_L_areThings_b300 (rec67 : Option Nat → Int32 → Int32 → Int32 → Int32 → Int32 → Int32 → Int32 → Int32 → SG → Option (Int32 × SG)) (v0 : Option Nat) (v1 : Int32) (v2 : Int32) (v3 : Int32) (v4 : Int32) (v5 : Int32) (v6 : Int32) (v8 : Int32) (s0 : Int32) (σ : SG) : Option (Int32 × SG) :=
  m_L_areThings_b302 rec67 v0 v1 v2 v3 v4 v5 v6 s0 v8 σ
def m_L_areThings_b299 (rec67 : Option Nat → Int32 → Int32 → Int32 → Int32 → Int32 → Int32 → Int32 → Int32 → SG → Option (Int32 × SG)) (v0 : Option Nat) (v1 : Int32) (v2 : Int32) (v3 : Int32) (v4 : Int32) (v5 : Int32) (v6 : Int32) (v8 : Int32) (σ : SG) : Option (Int32 × SG) :=
  m_L_areThings_b300 rec67 v0 v1 v2 v3 v4 v5 v6 v8 ((0 : Int32)) σ
def m_L_areThings_b279 (rec67 : Option Nat → Int32 → Int32 → Int32 → Int32 → Int32 → Int32 → Int32 → Int32 → SG → Option (Int32 × SG)) (v0 : Option Nat) (v1 : Int32) (v2 : Int32) (v3 : Int32) (v4 : Int32) (v5 : Int32) (v6 : Int32) (v8 : Int32) (σ : SG) : Option (Int32 × SG) :=
  (sObj v0 7 σ).bind fun _ =>
  bnd (m_X8_senderOf v0 v8 (5 : Int32) σ) fun r43 σ44 =>
  if ((3 : Int32) + ((2 : Int32) * v8)) < r43 then (
    m_L_areThings_b299 rec67 v0 v1 v2 v3 v4 v5 v6 v8 σ44
  ) else (
    m_L_areThings_b300 rec67 v0 v1 v2 v3 v4 v5 v6 v8 ((1 : Int32)) σ44
  )
def m_L_areThings_b276 (rec67 : Option Nat → Int32 → Int32 → Int32 → Int32 → Int32 → Int32 → Int32 → Int32 → SG → Option (Int32 × SG)) (v0 : Option Nat) (v1 : Int32) (v2 : Int32) (v3 : Int32) (v4 : Int32) (v5 : Int32) (v6 : Int32) (v8 : Int32) (s0 : Int32) (s1 : Int32) (σ : SG) : Option (Int32 × SG) :=
  if s0 = s1 then (
    m_L_areThings_b279 rec67 v0 v1 v2 v3 v4 v5 v6 v8 σ
  ) else (
    m_L_areThings_b299 rec67 v0 v1 v2 v3 v4 v5 v6 v8 σ
  )
def m_L_areThings_b204 (rec67 : Option Nat → Int32 → Int32 → Int32 → Int32 → Int32 → Int32 → Int32 → Int32 → SG → Option (Int32 × SG)) (v0 : Option Nat) (v1 : Int32) (v2 : Int32) (v3 : Int32) (v4 : Int32) (v5 : Int32) (v6 : Int32) (v8 : Int32) (v9 : Int32) (v10 : Int32) (v11 : Int32) (v12 : Int32) (s0 : Int32) (s1 : Int32) (σ : SG) : Option (Int32 × SG) :=
  if s0 = s1 then (
    if (16 : Int32) < v10 then (
      m_L_areThings_b299 rec67 v0 v1 v2 v3 v4 v5 v6 v8 σ
    ) else (
      if (2 : Int32) < v11 then (
        m_L_areThings_b299 rec67 v0 v1 v2 v3 v4 v5 v6 v8 σ
      ) else (
        if 0 ≤ v10 then (
          if v9 ≤ 0 then (
            m_L_areThings_b299 rec67 v0 v1 v2 v3 v4 v5 v6 v8 σ
          ) else (
            (sObj v0 7 σ).bind fun _ =>
            bnd (m_X8_senderOf v0 v8 (5 : Int32) σ) fun r52 σ53 =>
            if r52 = 0 then (
              if v10 ≤ (13 : Int32) then (
                (sObj v0 7 σ53).bind fun _ =>
                bnd (m_X8_queued v0 v8 (0 : Int32) σ53) fun r56 σ57 =>
                (sObj v0 7 σ57).bind fun _ =>
                bnd (m_X8_frame v0 r56 v10 σ57) fun r58 σ59 =>
                m_L_areThings_b276 rec67 v0 v1 v2 v3 v4 v5 v6 v8 v12 r58 σ59
              ) else (
                m_L_areThings_b276 rec67 v0 v1 v2 v3 v4 v5 v6 v8 v12 ((0 : Int32)) σ53
              )
            ) else (
              m_L_areThings_b299 rec67 v0 v1 v2 v3 v4 v5 v6 v8 σ53
            )
          )
        ) else (
          if v12 = (-5 : Int32) then (
            m_L_areThings_b279 rec67 v0 v1 v2 v3 v4 v5 v6 v8 σ
          ) else (
            m_L_areThings_b299 rec67 v0 v1 v2 v3 v4 v5 v6 v8 σ
          )
        )
      )
    )
  ) else (
    m_L_areThings_b299 rec67 v0 v1 v2 v3 v4 v5 v6 v8 σ
  )
def m_L_areThings_b194 (rec67 : Option Nat → Int32 → Int32 → Int32 → Int32 → Int32 → Int32 → Int32 → Int32 → SG → Option (Int32 × SG)) (v0 : Option Nat) (v1 : Int32) (v2 : Int32) (v3 : Int32) (v4 : Int32) (v5 : Int32) (v6 : Int32) (v8 : Int32) (v9 : Int32) (v10 : Int32) (v11 : Int32) (v12 : Int32) (s0 : Int32) (σ : SG) : Option (Int32 × SG) :=
  if v11 < 0 then (
    m_L_areThings_b204 rec67 v0 v1 v2 v3 v4 v5 v6 v8 v9 v10 v11 v12 s0 ((0 : Int32)) σ
  ) else (
    m_L_areThings_b204 rec67 v0 v1 v2 v3 v4 v5 v6 v8 v9 v10 v11 v12 s0 ((1 : Int32)) σ
  )
def m_L_areThings_b184 (rec67 : Option Nat → Int32 → Int32 → Int32 → Int32 → Int32 → Int32 → Int32 → Int32 → SG → Option (Int32 × SG)) (v0 : Option Nat) (v1 : Int32) (v2 : Int32) (v3 : Int32) (v4 : Int32) (v5 : Int32) (v6 : Int32) (v8 : Int32) (v9 : Int32) (v10 : Int32) (v11 : Int32) (v12 : Int32) (σ : SG) : Option (Int32 × SG) :=
  if v10 < 0 then (
    m_L_areThings_b194 rec67 v0 v1 v2 v3 v4 v5 v6 v8 v9 v10 v11 v12 ((0 : Int32)) σ
  ) else (
    m_L_areThings_b194 rec67 v0 v1 v2 v3 v4 v5 v6 v8 v9 v10 v11 v12 ((1 : Int32)) σ
  )
def m_L_areThings_b139 (rec67 : Option Nat → Int32 → Int32 → Int32 → Int32 → Int32 → Int32 → Int32 → Int32 → SG → Option (Int32 × SG)) (v0 : Option Nat) (v1 : Int32) (v3 : Int32) (v4 : Int32) (v5 : Int32) (v6 : Int32) (v8 : Int32) (v9 : Int32) (v10 : Int32) (v11 : Int32) (v12 : Int32) (s0 : Int32) (s1 : Int32) (σ : SG) : Option (Int32 × SG) :=
  if (6 : Int32) < v9 then (
    m_L_areThings_b299 rec67 v0 v1 ((s0 + s1)) ((v3 + v9)) v4 v5 v6 v8 σ
  ) else (
    (sObj v0 7 σ).bind fun _ =>
    bnd (m_X8_queued v0 v8 v9 σ) fun r64 σ65 =>
    if r64 = (-5 : Int32) then (
      if v9 = 0 then (
        m_L_areThings_b184 rec67 v0 v1 ((s0 + s1)) ((v3 + v9)) v4 v5 v6 v8 v9 v10 v11 v12 σ65
      ) else (
        (sObj v0 7 σ65).bind fun _ =>
        bnd (m_X8_queued v0 v8 (v9 - (1 : Int32)) σ65) fun r68 σ69 =>
        if r68 < 0 then (
          m_L_areThings_b299 rec67 v0 v1 ((s0 + s1)) ((v3 + v9)) v4 v5 v6 v8 σ69
        ) else (
          m_L_areThings_b184 rec67 v0 v1 ((s0 + s1)) ((v3 + v9)) v4 v5 v6 v8 v9 v10 v11 v12 σ69
        )
      )
    ) else (
      m_L_areThings_b299 rec67 v0 v1 ((s0 + s1)) ((v3 + v9)) v4 v5 v6 v8 σ65
    )
  )
def m_L_areThings_B67 (rec67 : Option Nat → Int32 → Int32 → Int32 → Int32 → Int32 → Int32 → Int32 → Int32 → SG → Option (Int32 × SG)) (v0 : Option Nat) (v1 : Int32) (v2 : Int32) (v3 : Int32) (v4 : Int32) (v5 : Int32) (v6 : Int32) (v7 : Int32) (v8 : Int32) (σ : SG) : Option (Int32 × SG) :=
  if (5 : Int32) ≤ v8 then (
    m_L_areThings_b308 v0 v1 v2 v3 v4 v5 v6 v7 σ
  ) else (
    if v7 = 0 then (
      m_L_areThings_b308 v0 v1 v2 v3 v4 v5 v6 v7 σ
    ) else (
      (sObj v0 7 σ).bind fun _ =>
      bnd (m_X8_senderOf v0 v8 (0 : Int32) σ) fun r73 σ74 =>
      if r73 < 0 then (
        m_L_areThings_b302 rec67 v0 v1 v2 v3 v4 v5 v6 v7 v8 σ74
      ) else (
        (sObj v0 7 σ74).bind fun _ =>
        bnd (m_X8_senderOf v0 v8 (2 : Int32) σ74) fun r76 σ77 =>
        (sObj v0 7 σ77).bind fun _ =>
        bnd (m_X8_senderOf v0 v8 (3 : Int32) σ77) fun r78 σ79 =>
        (sObj v0 7 σ79).bind fun _ =>
        bnd (m_X8_senderOf v0 v8 (4 : Int32) σ79) fun r80 σ81 =>
        (sObj v0 7 σ81).bind fun _ =>
        bnd (m_X8_senderOf v0 v8 (6 : Int32) σ81) fun r82 σ83 =>
        if r78 < 0 then (
          m_L_areThings_b139 rec67 v0 ((v1 + 1)) v3 v4 v5 v6 v8 r76 r78 r80 r82 v2 ((0 : Int32)) σ83
        ) else (
          m_L_areThings_b139 rec67 v0 ((v1 + 1)) v3 v4 v5 v6 v8 r76 r78 r80 r82 v2 ((1 : Int32)) σ83
        )
      )
    )
  )
def m_L_areThings_L67 (n : Nat) : Option Nat → Int32 → Int32 → Int32 → Int32 → Int32 → Int32 → Int32 → Int32 → SG → Option (Int32 × SG) := itF (fun _ _ _ _ _ _ _ _ _ _ => none) (m_L_areThings_B67 ) n
def m_L_areThings_b62 (v0 : Option Nat) (v1 : Int32) (v2 : Int32) (v3 : Int32) (v4 : Int32) (v5 : Int32) (v6 : Int32) (s0 : Int32) (σ : SG) : Option (Int32 × SG) :=
  m_L_areThings_L67 1000 v0 v1 v2 v3 v4 v5 v6 s0 ((0 : Int32)) σ
def m_L_areThings_b61 (v0 : Option Nat) (v1 : Int32) (v2 : Int32) (v3 : Int32) (v4 : Int32) (v5 : Int32) (v6 : Int32) (σ : SG) : Option (Int32 × SG) :=
  m_L_areThings_b62 v0 v1 v2 v3 v4 v5 v6 ((0 : Int32)) σ
def m_L_areThings (a0 : Option Nat) (σ : SG) : Option (Int32 × SG) :=
  (sObj a0 7 σ).bind fun _ =>
  bnd (m_X8_senderOf a0 (5 : Int32) (0 : Int32) σ) fun r85 σ86 =>
  if r85 = (-1 : Int32) then (
    (sObj a0 7 σ86).bind fun _ =>
    bnd (m_X8_machineOf a0 (4 : Int32) (0 : Int32) σ86) fun r88 σ89 =>
    if r88 = (-1 : Int32) then (
      (sObj a0 7 σ89).bind fun _ =>
      bnd (m_X8_lampOf a0 (8 : Int32) (0 : Int32) σ89) fun r91 σ92 =>
      if r91 = (-1 : Int32) then (
        (sObj a0 7 σ92).bind fun _ =>
        bnd (m_X8_receiver a0 (6 : Int32) (0 : Int32) σ92) fun r94 σ95 =>
        if r94 = (-1 : Int32) then (
          m_L_areThings_b62 a0 ((0 : Int32)) ((0 : Int32)) ((0 : Int32)) ((0 : Int32)) ((0 : Int32)) ((0 : Int32)) ((1 : Int32)) σ95
        ) else (
          m_L_areThings_b61 a0 ((0 : Int32)) ((0 : Int32)) ((0 : Int32)) ((0 : Int32)) ((0 : Int32)) ((0 : Int32)) σ95
        )
      ) else (
        m_L_areThings_b61 a0 ((0 : Int32)) ((0 : Int32)) ((0 : Int32)) ((0 : Int32)) ((0 : Int32)) ((0 : Int32)) σ92
      )
    ) else (
      m_L_areThings_b61 a0 ((0 : Int32)) ((0 : Int32)) ((0 : Int32)) ((0 : Int32)) ((0 : Int32)) ((0 : Int32)) σ89
    )
  ) else (
    m_L_areThings_b61 a0 ((0 : Int32)) ((0 : Int32)) ((0 : Int32)) ((0 : Int32)) ((0 : Int32)) ((0 : Int32)) σ86
  )
def rmL_areReceivers : Room := { frames := 3, cells := 0, slots := 0, locals := 66 }
def m_L_areReceivers_b295 (v0 : Option Nat) (v1 : Int32) (s0 : UInt32) (σ : SG) : Option (Int32 × SG) :=
  if v1 = 0 then (
    chkZ (0 : Int32) σ
  ) else (
    (sObj v0 7 σ).bind fun _ =>
    bnd (m_X8_freshness v0 σ) fun r2 σ3 =>
    if (Op.cmpValue (FP.fcmp r2 s0) .l) = 0 then (
      chkZ (1 : Int32) σ3
    ) else (
      chkZ (0 : Int32) σ3
    )
  )
def m_L_areReceivers_b260 (v0 : Option Nat) (v1 : Int32) (σ : SG) : Option (Int32 × SG) :=
  (sObj v0 7 σ).bind fun _ =>
  bnd (m_X8_total v0 (2 : Int32) σ) fun r5 σ6 =>
  (sObj v0 7 σ6).bind fun _ =>
  bnd (m_X8_total v0 (3 : Int32) σ6) fun r7 σ8 =>
  (sObj v0 7 σ8).bind fun _ =>
  bnd (m_X8_total v0 (4 : Int32) σ8) fun r9 σ10 =>
  if ((r5 + r7) + r9) = 0 then (
    m_L_areReceivers_b295 v0 v1 FP.fconst0 σ10
  ) else (
    (sObj v0 7 σ10).bind fun _ =>
    bnd (m_X8_total v0 (2 : Int32) σ10) fun r12 σ13 =>
    (sFdiv (FP.i2f r12) (FP.i2f ((r5 + r7) + r9))).bind fun f14 =>
    m_L_areReceivers_b295 v0 v1 f14 σ13
  )
def m_L_areReceivers_b254 (rec4 : Option Nat → Int32 → Int32 → SG → Option (Int32 × SG)) (v0 : Option Nat) (v1 : Int32) (v2 : Int32) (σ : SG) : Option (Int32 × SG) :=
  rec4 v0 v1 ((v2 + 1)) σ
def m_L_areReceivers_b247 (rec4 : Option Nat → Int32 → Int32 → SG → Option (Int32 × SG)) (rec164 : Option Nat → Int32 → Int32 → Int32 → SG → Option (Int32 × SG)) (v0 : Option Nat) (v2 : Int32) (v7 : Int32) (s0 : Int32) (σ : SG) : Option (Int32 × SG) :=
  rec164 v0 s0 v2 ((v7 + 1)) σ
def m_L_areReceivers_b246 (rec4 : Option Nat → Int32 → Int32 → SG → Option (Int32 × SG)) (rec164 : Option Nat → Int32 → Int32 → Int32 → SG → Option (Int32 × SG)) (v0 : Option Nat) (v2 : Int32) (v7 : Int32) (σ : SG) : Option (Int32 × SG) :=
  m_L_areReceivers_b247 rec4 rec164 v0 v2 v7 ((0 : Int32)) σ
def m_L_areReceivers_b215 (rec4 : Option Nat → Int32 → Int32 → SG → Option (Int32 × SG)) (rec164 : Option Nat → Int32 → Int32 → Int32 → SG → Option (Int32 × SG)) (v0 : Option Nat) (v2 : Int32) (v7 : Int32) (s0 : Int32) (s1 : Int32) (σ : SG) : Option (Int32 × SG) :=
  (sObj v0 7 σ).bind fun _ =>
  bnd (m_X8_loss v0 v2 v7 σ) fun r15 σ16 =>
  if r15 = (s0 + s1) then (
    (sObj v0 7 σ16).bind fun _ =>
    bnd (m_X8_loss v0 v7 v2 σ16) fun r18 σ19 =>
    if r18 = (s0 + s1) then (
      m_L_areReceivers_b247 rec4 rec164 v0 v2 v7 ((1 : Int32)) σ19
    ) else (
      m_L_areReceivers_b246 rec4 rec164 v0 v2 v7 σ19
    )
  ) else (
    m_L_areReceivers_b246 rec4 rec164 v0 v2 v7 σ16
  )
def m_L_areReceivers_b195 (rec4 : Option Nat → Int32 → Int32 → SG → Option (Int32 × SG)) (rec164 : Option Nat → Int32 → Int32 → Int32 → SG → Option (Int32 × SG)) (v0 : Option Nat) (v2 : Int32) (v7 : Int32) (s0 : Int32) (σ : SG) : Option (Int32 × SG) :=
  if (3 : Int32) = 0 then none else
  if (3 : Int32) = 0 then none else
  if (v2 / (3 : Int32)) = (v7 / (3 : Int32)) then (
    m_L_areReceivers_b215 rec4 rec164 v0 v2 v7 s0 ((0 : Int32)) σ
  ) else (
    (sObj v0 7 σ).bind fun _ =>
    bnd (m_X8_count v0 (8 : Int32) σ) fun r22 σ23 =>
    m_L_areReceivers_b215 rec4 rec164 v0 v2 v7 s0 r22 σ23
  )
def m_L_areReceivers_B164 (rec4 : Option Nat → Int32 → Int32 → SG → Option (Int32 × SG)) (rec164 : Option Nat → Int32 → Int32 → Int32 → SG → Option (Int32 × SG)) (v0 : Option Nat) (v1 : Int32) (v2 : Int32) (v7 : Int32) (σ : SG) : Option (Int32 × SG) :=
  if (6 : Int32) ≤ v7 then (
    m_L_areReceivers_b254 rec4 v0 v1 v2 σ
  ) else (
    if v1 = 0 then (
      m_L_areReceivers_b254 rec4 v0 v1 v2 σ
    ) else (
      if (3 : Int32) = 0 then none else
      if (3 : Int32) = 0 then none else
      if (v2 - v2 / (3 : Int32) * (3 : Int32)) = (v7 - v7 / (3 : Int32) * (3 : Int32)) then (
        m_L_areReceivers_b195 rec4 rec164 v0 v2 v7 ((0 : Int32)) σ
      ) else (
        (sObj v0 7 σ).bind fun _ =>
        bnd (m_X8_count v0 (7 : Int32) σ) fun r27 σ28 =>
        m_L_areReceivers_b195 rec4 rec164 v0 v2 v7 r27 σ28
      )
    )
  )
def m_L_areReceivers_L164 (rec4 : Option Nat → Int32 → Int32 → SG → Option (Int32 × SG)) (n : Nat) : Option Nat → Int32 → Int32 → Int32 → SG → Option (Int32 × SG) := itF (fun _ _ _ _ _ => none) (m_L_areReceivers_B164 rec4 ) n
def m_L_areReceivers_b160 (rec4 : Option Nat → Int32 → Int32 → SG → Option (Int32 × SG)) (v0 : Option Nat) (v2 : Int32) (s0 : Int32) (σ : SG) : Option (Int32 × SG) :=
  m_L_areReceivers_L164 rec4 1000 v0 s0 v2 ((0 : Int32)) σ
def m_L_areReceivers_b159 (rec4 : Option Nat → Int32 → Int32 → SG → Option (Int32 × SG)) (v0 : Option Nat) (v2 : Int32) (σ : SG) : Option (Int32 × SG) :=
  m_L_areReceivers_b160 rec4 v0 v2 ((0 : Int32)) σ
def m_L_areReceivers_b135 (rec4 : Option Nat → Int32 → Int32 → SG → Option (Int32 × SG)) (v0 : Option Nat) (v2 : Int32) (σ : SG) : Option (Int32 × SG) :=
  (sObj v0 7 σ).bind fun _ =>
  bnd (m_X8_receiver v0 v2 (4 : Int32) σ) fun r29 σ30 =>
  if r29 < 0 then (
    m_L_areReceivers_b159 rec4 v0 v2 σ30
  ) else (
    (sObj v0 7 σ30).bind fun _ =>
    bnd (m_X8_receiver v0 v2 (4 : Int32) σ30) fun r32 σ33 =>
    if (15 : Int32) < r32 then (
      m_L_areReceivers_b159 rec4 v0 v2 σ33
    ) else (
      m_L_areReceivers_b160 rec4 v0 v2 ((1 : Int32)) σ33
    )
  )
def m_L_areReceivers_b90 (rec4 : Option Nat → Int32 → Int32 → SG → Option (Int32 × SG)) (v0 : Option Nat) (v2 : Int32) (v5 : Int32) (v6 : Int32) (σ : SG) : Option (Int32 × SG) :=
  if 0 ≤ v5 then (
    if (32 : Int32) ≤ v5 then (
      m_L_areReceivers_b159 rec4 v0 v2 σ
    ) else (
      if v6 < (1 : Int32) then (
        m_L_areReceivers_b159 rec4 v0 v2 σ
      ) else (
        (sObj v0 7 σ).bind fun _ =>
        bnd (m_X8_count v0 (0 : Int32) σ) fun r38 σ39 =>
        if r38 < v6 then (
          m_L_areReceivers_b159 rec4 v0 v2 σ39
        ) else (
          m_L_areReceivers_b135 rec4 v0 v2 σ39
        )
      )
    )
  ) else (
    if v5 = (-5 : Int32) then (
      if v6 = (-5 : Int32) then (
        m_L_areReceivers_b135 rec4 v0 v2 σ
      ) else (
        m_L_areReceivers_b159 rec4 v0 v2 σ
      )
    ) else (
      m_L_areReceivers_b159 rec4 v0 v2 σ
    )
  )
def m_L_areReceivers_B4 (rec4 : Option Nat → Int32 → Int32 → SG → Option (Int32 × SG)) (v0 : Option Nat) (v1 : Int32) (v2 : Int32) (σ : SG) : Option (Int32 × SG) :=
  if (6 : Int32) ≤ v2 then (
    m_L_areReceivers_b260 v0 v1 σ
  ) else (
    if v1 = 0 then (
      m_L_areReceivers_b260 v0 v1 σ
    ) else (
      (sObj v0 7 σ).bind fun _ =>
      bnd (m_X8_receiver v0 v2 (0 : Int32) σ) fun r45 σ46 =>
      (sObj v0 7 σ46).bind fun _ =>
      bnd (m_X8_receiver v0 v2 (1 : Int32) σ46) fun r47 σ48 =>
      (sObj v0 7 σ48).bind fun _ =>
      bnd (m_X8_receiver v0 v2 (2 : Int32) σ48) fun r49 σ50 =>
      (sObj v0 7 σ50).bind fun _ =>
      bnd (m_X8_receiver v0 v2 (3 : Int32) σ50) fun r51 σ52 =>
      if r45 < 0 then (
        if r45 = (-5 : Int32) then (
          if r47 < 0 then (
            m_L_areReceivers_b159 rec4 v0 v2 σ52
          ) else (
            if (15 : Int32) < r47 then (
              m_L_areReceivers_b159 rec4 v0 v2 σ52
            ) else (
              if r47 = (14 : Int32) then (
                m_L_areReceivers_b159 rec4 v0 v2 σ52
              ) else (
                m_L_areReceivers_b90 rec4 v0 v2 r49 r51 σ52
              )
            )
          )
        ) else (
          m_L_areReceivers_b159 rec4 v0 v2 σ52
        )
      ) else (
        if (9 : Int32) < r45 then (
          m_L_areReceivers_b159 rec4 v0 v2 σ52
        ) else (
          if r47 = (-5 : Int32) then (
            m_L_areReceivers_b90 rec4 v0 v2 r49 r51 σ52
          ) else (
            m_L_areReceivers_b159 rec4 v0 v2 σ52
          )
        )
      )
    )
  )
def m_L_areReceivers_L4 (n : Nat) : Option Nat → Int32 → Int32 → SG → Option (Int32 × SG) := itF (fun _ _ _ _ => none) (m_L_areReceivers_B4 ) n
def m_L_areReceivers (a0 : Option Nat) (σ : SG) : Option (Int32 × SG) :=
  m_L_areReceivers_L4 1000 a0 ((1 : Int32)) ((0 : Int32)) σ
def rmL_areBeats : Room := { frames := 7, cells := 0, slots := 0, locals := 162 }
def m_L_areBeats_b268 (v0 : Option Nat) (v4 : Int32) (v6 : Int32) (v8 : Int32) (s0 : Int32) (σ : SG) : Option (Int32 × SG) :=
  (sObj v0 7 σ).bind fun _ =>
  bnd (m_X8_total v0 (2 : Int32) σ) fun r1 σ2 =>
  (sObj v0 7 σ2).bind fun _ =>
  bnd (m_X8_total v0 (3 : Int32) σ2) fun r3 σ4 =>
  (sObj v0 7 σ4).bind fun _ =>
  bnd (m_X8_total v0 (4 : Int32) σ4) fun r5 σ6 =>
  if s0 = 0 then (
    chkZ (0 : Int32) σ6
  ) else (
    (sObj v0 7 σ6).bind fun _ =>
    bnd (m_X8_restore v0 σ6) fun r8 σ9 =>
    if r8 = v6 then (
      (sObj v0 7 σ9).bind fun _ =>
      bnd (m_X8_pass v0 v4 σ9) fun r11 σ12 =>
      if r11 = v8 then (
        (sObj v0 7 σ12).bind fun _ =>
        bnd (m_X8_total v0 (2 : Int32) σ12) fun r14 σ15 =>
        (sObj v0 7 σ15).bind fun _ =>
        bnd (m_X8_total v0 (3 : Int32) σ15) fun r16 σ17 =>
        (sObj v0 7 σ17).bind fun _ =>
        bnd (m_X8_total v0 (4 : Int32) σ17) fun r18 σ19 =>
        if ((r14 + r16) + r18) = ((r1 + r3) + r5) then (
          chkZ (1 : Int32) σ19
        ) else (
          chkZ (0 : Int32) σ19
        )
      ) else (
        chkZ (0 : Int32) σ12
      )
    ) else (
      chkZ (0 : Int32) σ9
    )
  )
def m_L_areBeats_b267 (v0 : Option Nat) (v4 : Int32) (v6 : Int32) (v8 : Int32) (σ : SG) : Option (Int32 × SG) :=
  m_L_areBeats_b268 v0 v4 v6 v8 ((0 : Int32)) σ
def m_L_areBeats_b263 (v0 : Option Nat) (v4 : Int32) (v6 : Int32) (v8 : Int32) (σ : SG) : Option (Int32 × SG) :=
  m_L_areBeats_b268 v0 v4 v6 v8 ((1 : Int32)) σ
def m_L_areBeats_b239 (v0 : Option Nat) (v2 : Int32) (v4 : Int32) (v6 : Int32) (v8 : Int32) (v9 : Int32) (σ : SG) : Option (Int32 × SG) :=
  if 0 ≤ v9 then (
    if v2 = v9 then (
      m_L_areBeats_b263 v0 v4 v6 v8 σ
    ) else (
      m_L_areBeats_b267 v0 v4 v6 v8 σ
    )
  ) else (
    if v2 < 0 then (
      m_L_areBeats_b263 v0 v4 v6 v8 σ
    ) else (
      if v2 ≤ v4 then (
        m_L_areBeats_b267 v0 v4 v6 v8 σ
      ) else (
        m_L_areBeats_b263 v0 v4 v6 v8 σ
      )
    )
  )
def m_L_areBeats_b192 (v0 : Option Nat) (v2 : Int32) (v3 : Int32) (v4 : Int32) (v5 : Int32) (v6 : Int32) (v7 : Int32) (v8 : Int32) (v9 : Int32) (v10 : Int32) (σ : SG) : Option (Int32 × SG) :=
  if v10 = 0 then (
    m_L_areBeats_b267 v0 v4 v6 v8 σ
  ) else (
    (sObj v0 7 σ).bind fun _ =>
    bnd (m_X8_total v0 (2 : Int32) σ) fun r26 σ27 =>
    if v8 = (r26 - v7) then (
      (sObj v0 7 σ27).bind fun _ =>
      bnd (m_X8_lampOf v0 v3 (0 : Int32) σ27) fun r29 σ30 =>
      if 0 ≤ r29 then (
        (sObj v0 7 σ30).bind fun _ =>
        bnd (m_X8_lampOf v0 v3 (3 : Int32) σ30) fun r32 σ33 =>
        if r32 = v5 then (
          m_L_areBeats_b239 v0 v2 v4 v6 v8 v9 σ33
        ) else (
          m_L_areBeats_b267 v0 v4 v6 v8 σ33
        )
      ) else (
        if v5 = (-1 : Int32) then (
          m_L_areBeats_b239 v0 v2 v4 v6 v8 v9 σ30
        ) else (
          m_L_areBeats_b267 v0 v4 v6 v8 σ30
        )
      )
    ) else (
      m_L_areBeats_b267 v0 v4 v6 v8 σ27
    )
  )
def m_L_areBeats_b184 (rec82 : Option Nat → Int32 → Int32 → Int32 → Int32 → Int32 → Int32 → Int32 → Int32 → Int32 → Int32 → SG → Option (Int32 × SG)) (v0 : Option Nat) (v2 : Int32) (v3 : Int32) (v4 : Int32) (v5 : Int32) (v6 : Int32) (v7 : Int32) (v8 : Int32) (v9 : Int32) (v11 : Int32) (s0 : Int32) (σ : SG) : Option (Int32 × SG) :=
  rec82 v0 v2 v3 v4 v5 v6 v7 v8 v9 s0 ((v11 + 1)) σ
def m_L_areBeats_b183 (rec82 : Option Nat → Int32 → Int32 → Int32 → Int32 → Int32 → Int32 → Int32 → Int32 → Int32 → Int32 → SG → Option (Int32 × SG)) (v0 : Option Nat) (v2 : Int32) (v3 : Int32) (v4 : Int32) (v5 : Int32) (v6 : Int32) (v7 : Int32) (v8 : Int32) (v9 : Int32) (v11 : Int32) (σ : SG) : Option (Int32 × SG) :=
  m_L_areBeats_b184 rec82 v0 v2 v3 v4 v5 v6 v7 v8 v9 v11 ((0 : Int32)) σ
def m_L_areBeats_b138 (rec82 : Option Nat → Int32 → Int32 → Int32 → Int32 → Int32 → Int32 → Int32 → Int32 → Int32 → Int32 → SG → Option (Int32 × SG)) (v0 : Option Nat) (v2 : Int32) (v3 : Int32) (v4 : Int32) (v5 : Int32) (v6 : Int32) (v7 : Int32) (v8 : Int32) (v11 : Int32) (v12 : Int32) (v13 : Int32) (s0 : Int32) (σ : SG) : Option (Int32 × SG) :=
  (sObj v0 7 σ).bind fun _ =>
  bnd (m_X8_count v0 (0 : Int32) σ) fun r36 σ37 =>
  if r36 = (v6 + v11) then (
    (sObj v0 7 σ37).bind fun _ =>
    bnd (m_X8_count v0 (5 : Int32) σ37) fun r39 σ40 =>
    (sObj v0 7 σ40).bind fun _ =>
    bnd (m_X8_total v0 (0 : Int32) σ40) fun r41 σ42 =>
    if (v12 - r39) = (r41 - v13) then (
      bnd (m_L_areReceivers v0 σ42) fun r44 σ45 =>
      if r44 = 0 then (
        m_L_areBeats_b183 rec82 v0 v2 v3 v4 v5 v6 v7 v8 s0 v11 σ45
      ) else (
        m_L_areBeats_b184 rec82 v0 v2 v3 v4 v5 v6 v7 v8 s0 v11 ((1 : Int32)) σ45
      )
    ) else (
      m_L_areBeats_b183 rec82 v0 v2 v3 v4 v5 v6 v7 v8 s0 v11 σ42
    )
  ) else (
    m_L_areBeats_b183 rec82 v0 v2 v3 v4 v5 v6 v7 v8 s0 v11 σ37
  )
def m_L_areBeats_b136 (rec82 : Option Nat → Int32 → Int32 → Int32 → Int32 → Int32 → Int32 → Int32 → Int32 → Int32 → Int32 → SG → Option (Int32 × SG)) (v0 : Option Nat) (v2 : Int32) (v3 : Int32) (v4 : Int32) (v5 : Int32) (v6 : Int32) (v7 : Int32) (v8 : Int32) (v9 : Int32) (v11 : Int32) (v12 : Int32) (v13 : Int32) (σ : SG) : Option (Int32 × SG) :=
  m_L_areBeats_b138 rec82 v0 v2 v3 v4 v5 v6 v7 v8 v11 v12 v13 v9 σ
def m_L_areBeats_B82 (rec82 : Option Nat → Int32 → Int32 → Int32 → Int32 → Int32 → Int32 → Int32 → Int32 → Int32 → Int32 → SG → Option (Int32 × SG)) (v0 : Option Nat) (v2 : Int32) (v3 : Int32) (v4 : Int32) (v5 : Int32) (v6 : Int32) (v7 : Int32) (v8 : Int32) (v9 : Int32) (v10 : Int32) (v11 : Int32) (σ : SG) : Option (Int32 × SG) :=
  if v4 < v11 then (
    m_L_areBeats_b192 v0 v2 v3 v4 v5 v6 v7 v8 v9 v10 σ
  ) else (
    if v10 = 0 then (
      m_L_areBeats_b192 v0 v2 v3 v4 v5 v6 v7 v8 v9 v10 σ
    ) else (
      (sObj v0 7 σ).bind fun _ =>
      bnd (m_X8_count v0 (5 : Int32) σ) fun r49 σ50 =>
      (sObj v0 7 σ50).bind fun _ =>
      bnd (m_X8_total v0 (0 : Int32) σ50) fun r51 σ52 =>
      (sObj v0 7 σ52).bind fun _ =>
      bnd (m_X8_pass v0 (1 : Int32) σ52) fun r53 σ54 =>
      if 0 ≤ v9 then (
        m_L_areBeats_b136 rec82 v0 v2 v3 v4 v5 v6 v7 ((v8 + r53)) v9 v11 r49 r51 σ54
      ) else (
        (sObj v0 7 σ54).bind fun _ =>
        bnd (m_X8_count v0 (5 : Int32) σ54) fun r56 σ57 =>
        if r56 = 0 then (
          m_L_areBeats_b138 rec82 v0 v2 v3 v4 v5 v6 v7 ((v8 + r53)) v11 r49 r51 v11 σ57
        ) else (
          m_L_areBeats_b136 rec82 v0 v2 v3 v4 v5 v6 v7 ((v8 + r53)) v9 v11 r49 r51 σ57
        )
      )
    )
  )
def m_L_areBeats_L82 (n : Nat) : Option Nat → Int32 → Int32 → Int32 → Int32 → Int32 → Int32 → Int32 → Int32 → Int32 → Int32 → SG → Option (Int32 × SG) := itF (fun _ _ _ _ _ _ _ _ _ _ _ _ => none) (m_L_areBeats_B82 ) n
def m_L_areBeats_b77 (v0 : Option Nat) (v2 : Int32) (v3 : Int32) (v4 : Int32) (v5 : Int32) (v6 : Int32) (v7 : Int32) (v8 : Int32) (v9 : Int32) (s0 : Int32) (σ : SG) : Option (Int32 × SG) :=
  m_L_areBeats_L82 1000 v0 v2 v3 v4 v5 v6 v7 v8 v9 s0 ((1 : Int32)) σ
def m_L_areBeats_b60 (v0 : Option Nat) (v2 : Int32) (v3 : Int32) (v4 : Int32) (v5 : Int32) (v6 : Int32) (v7 : Int32) (v8 : Int32) (s0 : Int32) (σ : SG) : Option (Int32 × SG) :=
  (sObj v0 7 σ).bind fun _ =>
  bnd (m_X8_count v0 (0 : Int32) σ) fun r59 σ60 =>
  if v6 = r59 then (
    m_L_areBeats_b77 v0 v2 v3 v4 v5 v6 v7 v8 s0 ((1 : Int32)) σ60
  ) else (
    m_L_areBeats_b77 v0 v2 v3 v4 v5 v6 v7 v8 s0 ((0 : Int32)) σ60
  )
def m_L_areBeats (a0 : Option Nat) (a1 : Int32) (σ : SG) : Option (Int32 × SG) :=
  (sObj a0 7 σ).bind fun _ =>
  bnd (m_X8_silentIn a0 σ) fun r62 σ63 =>
  if (64 : Int32) = 0 then none else
  if (8 : Int32) = 0 then none else
  if (50 : Int32) = 0 then none else
  (sObj a0 7 σ63).bind fun _ =>
  bnd (m_X8_levelIn a0 ((a1 / (64 : Int32)) - (a1 / (64 : Int32)) / (8 : Int32) * (8 : Int32)) ((1 : Int32) + (a1 - a1 / (50 : Int32) * (50 : Int32))) σ63) fun r64 σ65 =>
  (sObj a0 7 σ65).bind fun _ =>
  bnd (m_X8_save a0 σ65) fun r66 σ67 =>
  (sObj a0 7 σ67).bind fun _ =>
  bnd (m_X8_total a0 (2 : Int32) σ67) fun r68 σ69 =>
  (sObj a0 7 σ69).bind fun _ =>
  bnd (m_X8_count a0 (5 : Int32) σ69) fun r70 σ71 =>
  if r70 = 0 then (
    m_L_areBeats_b60 a0 r62 (((a1 / (64 : Int32)) - (a1 / (64 : Int32)) / (8 : Int32) * (8 : Int32))) (((1 : Int32) + (a1 - a1 / (50 : Int32) * (50 : Int32)))) r64 r66 r68 ((0 : Int32)) ((0 : Int32)) σ71
  ) else (
    m_L_areBeats_b60 a0 r62 (((a1 / (64 : Int32)) - (a1 / (64 : Int32)) / (8 : Int32) * (8 : Int32))) (((1 : Int32) + (a1 - a1 / (50 : Int32) * (50 : Int32)))) r64 r66 r68 ((0 : Int32)) ((-5 : Int32)) σ71
  )
def rmL_acts : Room := { frames := 7, cells := 0, slots := 0, locals := 160 }
def m_L_acts_b635 (v0 : Option Nat) (v1 : Int32) (v3 : Int32) (σ : SG) : Option (Int32 × SG) :=
  (sObj v0 7 σ).bind fun _ =>
  bnd (m_X8_senderOf v0 v3 (2 : Int32) σ) fun r1 σ2 =>
  if (32 : Int32) = 0 then none else
  (sObj v0 7 σ2).bind fun _ =>
  bnd (m_X8_say v0 v3 ((v1 >>> ((8 : Int32) &&& 31)) - (v1 >>> ((8 : Int32) &&& 31)) / (32 : Int32) * (32 : Int32)) σ2) fun r3 σ4 =>
  if 0 ≤ r1 then (
    if r1 = (6 : Int32) then (
      if r3 = (-3 : Int32) then (
        chkZ (1 : Int32) σ4
      ) else (
        chkZ (0 : Int32) σ4
      )
    ) else (
      if r3 = (r1 + (1 : Int32)) then (
        (sObj v0 7 σ4).bind fun _ =>
        bnd (m_X8_queued v0 v3 r1 σ4) fun r9 σ10 =>
        if r9 = ((v1 >>> ((8 : Int32) &&& 31)) - (v1 >>> ((8 : Int32) &&& 31)) / (32 : Int32) * (32 : Int32)) then (
          chkZ (1 : Int32) σ10
        ) else (
          chkZ (0 : Int32) σ10
        )
      ) else (
        chkZ (0 : Int32) σ4
      )
    )
  ) else (
    if r3 = (-1 : Int32) then (
      chkZ (1 : Int32) σ4
    ) else (
      chkZ (0 : Int32) σ4
    )
  )
def m_L_acts_b589 (v0 : Option Nat) (v14 : Int32) (s0 : Int32) (σ : SG) : Option (Int32 × SG) :=
  (sObj v0 7 σ).bind fun _ =>
  bnd (m_X8_count v0 ((7 : Int32) + v14) σ) fun r13 σ14 =>
  (sObj v0 7 σ14).bind fun _ =>
  bnd (m_X8_set v0 v14 s0 σ14) fun r15 σ16 =>
  if r15 = r13 then (
    (sObj v0 7 σ16).bind fun _ =>
    bnd (m_X8_count v0 ((7 : Int32) + v14) σ16) fun r18 σ19 =>
    if r18 = s0 then (
      chkZ (1 : Int32) σ19
    ) else (
      chkZ (0 : Int32) σ19
    )
  ) else (
    chkZ (0 : Int32) σ16
  )
def m_L_acts_b534 (σ : SG) : Option (Int32 × SG) :=
  chkZ (1 : Int32) σ
def m_L_acts_b530 (s0 : Int32) (s1 : Int32) (s2 : Int32) (σ : SG) : Option (Int32 × SG) :=
  if s0 = (s1 - s2) then (
    m_L_acts_b534 σ
  ) else (
    chkZ (0 : Int32) σ
  )
def m_L_acts_b485 (v0 : Option Nat) (v11 : Int32) (v12 : Int32) (s0 : Int32) (σ : SG) : Option (Int32 × SG) :=
  if s0 = (-9 : Int32) then (
    m_L_acts_b534 σ
  ) else (
    if s0 = v11 then (
      (sObj v0 7 σ).bind fun _ =>
      bnd (m_X8_count v0 (1 : Int32) σ) fun r24 σ25 =>
      (sObj v0 7 σ25).bind fun _ =>
      bnd (m_X8_count v0 (2 : Int32) σ25) fun r26 σ27 =>
      (sObj v0 7 σ27).bind fun _ =>
      bnd (m_X8_count v0 (3 : Int32) σ27) fun r28 σ29 =>
      if 0 ≤ v11 then (
        m_L_acts_b530 (((r24 + r26) + r28)) v12 ((1 : Int32)) σ29
      ) else (
        m_L_acts_b530 (((r24 + r26) + r28)) v12 ((0 : Int32)) σ29
      )
    ) else (
      chkZ (0 : Int32) σ
    )
  )
def m_L_acts_b443 (v0 : Option Nat) (v1 : Int32) (v3 : Int32) (v10 : Int32) (s0 : Int32) (σ : SG) : Option (Int32 × SG) :=
  (sObj v0 7 σ).bind fun _ =>
  bnd (m_X8_count v0 (1 : Int32) σ) fun r31 σ32 =>
  (sObj v0 7 σ32).bind fun _ =>
  bnd (m_X8_count v0 (2 : Int32) σ32) fun r33 σ34 =>
  (sObj v0 7 σ34).bind fun _ =>
  bnd (m_X8_count v0 (3 : Int32) σ34) fun r35 σ36 =>
  if (3 : Int32) = 0 then none else
  if ((v1 >>> ((9 : Int32) &&& 31)) - (v1 >>> ((9 : Int32) &&& 31)) / (3 : Int32) * (3 : Int32)) ≤ 0 then (
    (sObj v0 7 σ36).bind fun _ =>
    bnd (m_X8_remove v0 v10 v3 σ36) fun r38 σ39 =>
    m_L_acts_b485 v0 s0 (((r31 + r33) + r35)) r38 σ39
  ) else (
    m_L_acts_b485 v0 s0 (((r31 + r33) + r35)) ((-9 : Int32)) σ36
  )
def m_L_acts_b276 (s0 : Option Nat) (s1 : Int32) (s2 : Int32) (σ : SG) : Option (Int32 × SG) :=
  (sObj s0 7 σ).bind fun _ =>
  bnd (m_X8_run s0 s1 s2 σ) fun r40 σ41 =>
  if r40 = (1 : Int32) then (
    chkZ (1 : Int32) σ41
  ) else (
    chkZ (0 : Int32) σ41
  )
def m_L_acts (a0 : Option Nat) (a1 : Int32) (σ : SG) : Option (Int32 × SG) :=
  if (6 : Int32) = 0 then none else
  if (5 : Int32) = 0 then none else
  if (10 : Int32) = 0 then none else
  swK (a1 - a1 / (10 : Int32) * (10 : Int32)) [
    (0, (
      (sObj a0 7 σ).bind fun _ =>
      bnd (m_X8_count a0 (1 : Int32) σ) fun r43 σ44 =>
      if (9 : Int32) = 0 then none else
      (sObj a0 7 σ44).bind fun _ =>
      bnd (m_X8_sender a0 ((a1 >>> ((4 : Int32) &&& 31)) - (a1 >>> ((4 : Int32) &&& 31)) / (6 : Int32) * (6 : Int32)) ((1 : Int32) + ((a1 >>> ((8 : Int32) &&& 31)) - (a1 >>> ((8 : Int32) &&& 31)) / (9 : Int32) * (9 : Int32))) σ44) fun r45 σ46 =>
      if r43 = (5 : Int32) then (
        if r45 = (-3 : Int32) then (
          chkZ (1 : Int32) σ46
        ) else (
          chkZ (0 : Int32) σ46
        )
      ) else (
        if r45 < 0 then (
          chkZ (0 : Int32) σ46
        ) else (
          (sObj a0 7 σ46).bind fun _ =>
          bnd (m_X8_senderOf a0 r45 (0 : Int32) σ46) fun r50 σ51 =>
          if r50 = ((a1 >>> ((4 : Int32) &&& 31)) - (a1 >>> ((4 : Int32) &&& 31)) / (6 : Int32) * (6 : Int32)) then (
            (sObj a0 7 σ51).bind fun _ =>
            bnd (m_X8_senderOf a0 r45 (1 : Int32) σ51) fun r53 σ54 =>
            if (9 : Int32) = 0 then none else
            if r53 = ((1 : Int32) + ((a1 >>> ((8 : Int32) &&& 31)) - (a1 >>> ((8 : Int32) &&& 31)) / (9 : Int32) * (9 : Int32))) then (
              (sObj a0 7 σ54).bind fun _ =>
              bnd (m_X8_senderOf a0 r45 (2 : Int32) σ54) fun r56 σ57 =>
              if r56 = 0 then (
                (sObj a0 7 σ57).bind fun _ =>
                bnd (m_X8_senderOf a0 r45 (3 : Int32) σ57) fun r59 σ60 =>
                if r59 = (-5 : Int32) then (
                  chkZ (1 : Int32) σ60
                ) else (
                  chkZ (0 : Int32) σ60
                )
              ) else (
                chkZ (0 : Int32) σ57
              )
            ) else (
              chkZ (0 : Int32) σ54
            )
          ) else (
            chkZ (0 : Int32) σ51
          )
        )
      )
    )),
    (1, (
      (sObj a0 7 σ).bind fun _ =>
      bnd (m_X8_count a0 (2 : Int32) σ) fun r62 σ63 =>
      if (9 : Int32) = 0 then none else
      if (19 : Int32) = 0 then none else
      (sObj a0 7 σ63).bind fun _ =>
      bnd (m_X8_machine a0 ((a1 >>> ((4 : Int32) &&& 31)) - (a1 >>> ((4 : Int32) &&& 31)) / (6 : Int32) * (6 : Int32)) ((1 : Int32) + ((a1 >>> ((8 : Int32) &&& 31)) - (a1 >>> ((8 : Int32) &&& 31)) / (9 : Int32) * (9 : Int32))) ((2 : Int32) + ((a1 >>> ((12 : Int32) &&& 31)) - (a1 >>> ((12 : Int32) &&& 31)) / (19 : Int32) * (19 : Int32))) σ63) fun r64 σ65 =>
      if r62 = (4 : Int32) then (
        if r64 = (-3 : Int32) then (
          chkZ (1 : Int32) σ65
        ) else (
          chkZ (0 : Int32) σ65
        )
      ) else (
        if r64 < 0 then (
          chkZ (0 : Int32) σ65
        ) else (
          (sObj a0 7 σ65).bind fun _ =>
          bnd (m_X8_machineOf a0 r64 (2 : Int32) σ65) fun r69 σ70 =>
          if (19 : Int32) = 0 then none else
          if r69 = ((2 : Int32) + ((a1 >>> ((12 : Int32) &&& 31)) - (a1 >>> ((12 : Int32) &&& 31)) / (19 : Int32) * (19 : Int32))) then (
            (sObj a0 7 σ70).bind fun _ =>
            bnd (m_X8_machineOf a0 r64 (3 : Int32) σ70) fun r72 σ73 =>
            if r72 = (1 : Int32) then (
              if (3 : Int32) = 0 then none else
              if ((a1 >>> ((18 : Int32) &&& 31)) - (a1 >>> ((18 : Int32) &&& 31)) / (3 : Int32) * (3 : Int32)) ≤ 0 then (
                m_L_acts_b276 a0 r64 ((0 : Int32)) σ73
              ) else (
                m_L_acts_b276 a0 r64 ((1 : Int32)) σ73
              )
            ) else (
              chkZ (0 : Int32) σ73
            )
          ) else (
            chkZ (0 : Int32) σ70
          )
        )
      )
    )),
    (2, (
      (sObj a0 7 σ).bind fun _ =>
      bnd (m_X8_count a0 (3 : Int32) σ) fun r76 σ77 =>
      if (4 : Int32) = 0 then none else
      if (4 : Int32) = 0 then none else
      (sObj a0 7 σ77).bind fun _ =>
      bnd (m_X8_lamp a0 ((a1 >>> ((4 : Int32) &&& 31)) - (a1 >>> ((4 : Int32) &&& 31)) / (6 : Int32) * (6 : Int32)) ((a1 >>> ((8 : Int32) &&& 31)) - (a1 >>> ((8 : Int32) &&& 31)) / (4 : Int32) * (4 : Int32)) ((a1 >>> ((10 : Int32) &&& 31)) - (a1 >>> ((10 : Int32) &&& 31)) / (4 : Int32) * (4 : Int32)) σ77) fun r78 σ79 =>
      if r76 = (8 : Int32) then (
        if r78 = (-3 : Int32) then (
          chkZ (1 : Int32) σ79
        ) else (
          chkZ (0 : Int32) σ79
        )
      ) else (
        if r78 < 0 then (
          chkZ (0 : Int32) σ79
        ) else (
          (sObj a0 7 σ79).bind fun _ =>
          bnd (m_X8_lampOf a0 r78 (1 : Int32) σ79) fun r83 σ84 =>
          if (4 : Int32) = 0 then none else
          if r83 = ((a1 >>> ((8 : Int32) &&& 31)) - (a1 >>> ((8 : Int32) &&& 31)) / (4 : Int32) * (4 : Int32)) then (
            (sObj a0 7 σ84).bind fun _ =>
            bnd (m_X8_lampOf a0 r78 (2 : Int32) σ84) fun r86 σ87 =>
            if (4 : Int32) = 0 then none else
            if r86 = ((a1 >>> ((10 : Int32) &&& 31)) - (a1 >>> ((10 : Int32) &&& 31)) / (4 : Int32) * (4 : Int32)) then (
              (sObj a0 7 σ87).bind fun _ =>
              bnd (m_X8_lampOf a0 r78 (3 : Int32) σ87) fun r89 σ90 =>
              if r89 = 0 then (
                (sObj a0 7 σ90).bind fun _ =>
                bnd (m_X8_lampOf a0 r78 (4 : Int32) σ90) fun r92 σ93 =>
                if r92 = 0 then (
                  chkZ (1 : Int32) σ93
                ) else (
                  chkZ (0 : Int32) σ93
                )
              ) else (
                chkZ (0 : Int32) σ90
              )
            ) else (
              chkZ (0 : Int32) σ87
            )
          ) else (
            chkZ (0 : Int32) σ84
          )
        )
      )
    )),
    (3, (
      if (3 : Int32) = 0 then none else
      if ((a1 >>> ((7 : Int32) &&& 31)) - (a1 >>> ((7 : Int32) &&& 31)) / (3 : Int32) * (3 : Int32)) = 0 then (
        (sObj a0 7 σ).bind fun _ =>
        bnd (m_X8_senderOf a0 ((a1 >>> ((4 : Int32) &&& 31)) - (a1 >>> ((4 : Int32) &&& 31)) / (5 : Int32) * (5 : Int32)) (0 : Int32) σ) fun r96 σ97 =>
        m_L_acts_b443 a0 a1 (((a1 >>> ((4 : Int32) &&& 31)) - (a1 >>> ((4 : Int32) &&& 31)) / (5 : Int32) * (5 : Int32))) (((a1 >>> ((7 : Int32) &&& 31)) - (a1 >>> ((7 : Int32) &&& 31)) / (3 : Int32) * (3 : Int32))) r96 σ97
      ) else (
        if ((a1 >>> ((7 : Int32) &&& 31)) - (a1 >>> ((7 : Int32) &&& 31)) / (3 : Int32) * (3 : Int32)) = (1 : Int32) then (
          (sObj a0 7 σ).bind fun _ =>
          bnd (m_X8_machineOf a0 ((a1 >>> ((4 : Int32) &&& 31)) - (a1 >>> ((4 : Int32) &&& 31)) / (5 : Int32) * (5 : Int32)) (0 : Int32) σ) fun r99 σ100 =>
          m_L_acts_b443 a0 a1 (((a1 >>> ((4 : Int32) &&& 31)) - (a1 >>> ((4 : Int32) &&& 31)) / (5 : Int32) * (5 : Int32))) (((a1 >>> ((7 : Int32) &&& 31)) - (a1 >>> ((7 : Int32) &&& 31)) / (3 : Int32) * (3 : Int32))) r99 σ100
        ) else (
          (sObj a0 7 σ).bind fun _ =>
          bnd (m_X8_lampOf a0 ((a1 >>> ((4 : Int32) &&& 31)) - (a1 >>> ((4 : Int32) &&& 31)) / (5 : Int32) * (5 : Int32)) (0 : Int32) σ) fun r101 σ102 =>
          m_L_acts_b443 a0 a1 (((a1 >>> ((4 : Int32) &&& 31)) - (a1 >>> ((4 : Int32) &&& 31)) / (5 : Int32) * (5 : Int32))) (((a1 >>> ((7 : Int32) &&& 31)) - (a1 >>> ((7 : Int32) &&& 31)) / (3 : Int32) * (3 : Int32))) r101 σ102
        )
      )
    )),
    (4, (
      if (4 : Int32) = 0 then none else
      if (2 : Int32) ≤ ((a1 >>> ((4 : Int32) &&& 31)) - (a1 >>> ((4 : Int32) &&& 31)) / (4 : Int32) * (4 : Int32)) then (
        if ((a1 >>> ((4 : Int32) &&& 31)) - (a1 >>> ((4 : Int32) &&& 31)) / (4 : Int32) * (4 : Int32)) = (2 : Int32) then (
          if (9 : Int32) = 0 then none else
          m_L_acts_b589 a0 (((a1 >>> ((4 : Int32) &&& 31)) - (a1 >>> ((4 : Int32) &&& 31)) / (4 : Int32) * (4 : Int32))) (((1 : Int32) + ((a1 >>> ((8 : Int32) &&& 31)) - (a1 >>> ((8 : Int32) &&& 31)) / (9 : Int32) * (9 : Int32)))) σ
        ) else (
          if (3 : Int32) = 0 then none else
          m_L_acts_b589 a0 (((a1 >>> ((4 : Int32) &&& 31)) - (a1 >>> ((4 : Int32) &&& 31)) / (4 : Int32) * (4 : Int32))) (((1 : Int32) + ((a1 >>> ((8 : Int32) &&& 31)) - (a1 >>> ((8 : Int32) &&& 31)) / (3 : Int32) * (3 : Int32)))) σ
        )
      ) else (
        if (10 : Int32) = 0 then none else
        m_L_acts_b589 a0 (((a1 >>> ((4 : Int32) &&& 31)) - (a1 >>> ((4 : Int32) &&& 31)) / (4 : Int32) * (4 : Int32))) (((a1 >>> ((8 : Int32) &&& 31)) - (a1 >>> ((8 : Int32) &&& 31)) / (10 : Int32) * (10 : Int32))) σ
      )
    )),
    (5, (
      m_L_acts_b635 a0 a1 (((a1 >>> ((4 : Int32) &&& 31)) - (a1 >>> ((4 : Int32) &&& 31)) / (5 : Int32) * (5 : Int32))) σ
    )),
    (6, (
      m_L_acts_b635 a0 a1 (((a1 >>> ((4 : Int32) &&& 31)) - (a1 >>> ((4 : Int32) &&& 31)) / (5 : Int32) * (5 : Int32))) σ
    )),
    (7, (
      m_L_acts_b635 a0 a1 (((a1 >>> ((4 : Int32) &&& 31)) - (a1 >>> ((4 : Int32) &&& 31)) / (5 : Int32) * (5 : Int32))) σ
    ))
  ] (
    if (60 : Int32) = 0 then none else
    (sObj a0 7 σ).bind fun _ =>
    bnd (m_X8_count a0 (0 : Int32) σ) fun r105 σ106 =>
    (sObj a0 7 σ106).bind fun _ =>
    bnd (m_X8_total a0 (2 : Int32) σ106) fun r107 σ108 =>
    (sObj a0 7 σ108).bind fun _ =>
    bnd (m_X8_pass a0 ((1 : Int32) + ((a1 >>> ((4 : Int32) &&& 31)) - (a1 >>> ((4 : Int32) &&& 31)) / (60 : Int32) * (60 : Int32))) σ108) fun r109 σ110 =>
    (sObj a0 7 σ110).bind fun _ =>
    bnd (m_X8_total a0 (2 : Int32) σ110) fun r111 σ112 =>
    if r109 = (r111 - r107) then (
      (sObj a0 7 σ112).bind fun _ =>
      bnd (m_X8_count a0 (0 : Int32) σ112) fun r114 σ115 =>
      if r114 = (r105 + ((1 : Int32) + ((a1 >>> ((4 : Int32) &&& 31)) - (a1 >>> ((4 : Int32) &&& 31)) / (60 : Int32) * (60 : Int32)))) then (
        chkZ (1 : Int32) σ115
      ) else (
        chkZ (0 : Int32) σ115
      )
    ) else (
      chkZ (0 : Int32) σ112
    )
  )
