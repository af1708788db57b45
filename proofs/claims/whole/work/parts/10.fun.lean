/-! PRINTED BY wip/whole/gen.py: each method as a function on the map -/
def rmX7_init : Room := { frames := 1, cells := 0, slots := 0, locals := 12 }
def m_X7_init (a0 : Option Nat) (a1 : Int32) (σ : SG) : Option (Unit × SG) :=
  (sNN a0).bind fun _ =>
  (sPutZT a0 [1, 2, 6] 1 (0 : Int32) σ).bind fun σ1 =>
  (sPutIT a0 [1, 2, 6] 2 (0 : Int32) σ1).bind fun σ2 =>
  (sPutIT a0 [1, 2, 6] 0 a1 σ2).bind fun σ3 =>
  some ((), σ3)
def rmX6_init : Room := { frames := 2, cells := 1, slots := 800, locals := 33 }
def m_X6_init_e (lim : Nat) (a0 : Option Nat) (a1 : Int32) (σ : SG) : Option (Unit × SG) :=
  (sRoom lim 0 σ).bind fun _ =>
  (sObj a0 6 σ).bind fun _ =>
  bnd (m_X7_init a0 a1 σ) fun _ σ1 =>
  (sSame σ1.2 (σ.2 + 0)).bind fun _ =>
  bnd (sNewA lim 1 (6 : Int32) σ1) fun x3 σ4 =>
  (sPutR a0 6 3 x3 σ4).bind fun σ6 =>
  (sPutI a0 6 4 (0 : Int32) σ6).bind fun σ7 =>
  (sPutI a0 6 5 (0 : Int32) σ7).bind fun σ8 =>
  (sPutZ a0 6 6 (0 : Int32) σ8).bind fun σ9 =>
  (sPutI a0 6 7 (0 : Int32) σ9).bind fun σ10 =>
  (sPutI a0 6 8 (0 : Int32) σ10).bind fun σ11 =>
  (sPutI a0 6 9 (0 : Int32) σ11).bind fun σ12 =>
  sEnd lim σ12
def m_X6_init (a0 : Option Nat) (a1 : Int32) (σ : SG) : Option (Unit × SG) := m_X6_init_e (σ.2 + 1) a0 a1 σ
def rmX2_init : Room := { frames := 2, cells := 0, slots := 0, locals := 33 }
def m_X2_init (a0 : Option Nat) (a1 : Int32) (σ : SG) : Option (Unit × SG) :=
  (sObj a0 2 σ).bind fun _ =>
  bnd (m_X7_init a0 a1 σ) fun _ σ1 =>
  (sPutI a0 2 3 (0 : Int32) σ1).bind fun σ2 =>
  (sPutI a0 2 4 (2 : Int32) σ2).bind fun σ3 =>
  (sPutZ a0 2 5 (0 : Int32) σ3).bind fun σ4 =>
  some ((), σ4)
def rmX1_init : Room := { frames := 2, cells := 0, slots := 0, locals := 33 }
def m_X1_init (a0 : Option Nat) (a1 : Int32) (σ : SG) : Option (Unit × SG) :=
  (sObj a0 1 σ).bind fun _ =>
  bnd (m_X7_init a0 a1 σ) fun _ σ1 =>
  (sPutI a0 1 3 (0 : Int32) σ1).bind fun σ2 =>
  (sPutI a0 1 4 (0 : Int32) σ2).bind fun σ3 =>
  (sPutI a0 1 5 (0 : Int32) σ3).bind fun σ4 =>
  (sPutZ a0 1 6 (0 : Int32) σ4).bind fun σ5 =>
  some ((), σ5)
def rmX4_init : Room := { frames := 1, cells := 0, slots := 0, locals := 12 }
def m_X4_init (a0 : Option Nat) (σ : SG) : Option (Unit × SG) :=
  (sNN a0).bind fun _ =>
  (sPutZ a0 4 0 (0 : Int32) σ).bind fun σ1 =>
  (sPutI a0 4 1 (0 : Int32) σ1).bind fun σ2 =>
  (sPutI a0 4 2 (0 : Int32) σ2).bind fun σ3 =>
  (sPutI a0 4 3 (0 : Int32) σ3).bind fun σ4 =>
  (sPutI a0 4 4 (-5 : Int32) σ4).bind fun σ5 =>
  (sPutI a0 4 5 (0 : Int32) σ5).bind fun σ6 =>
  (sPutI a0 4 6 (15 : Int32) σ6).bind fun σ7 =>
  some ((), σ7)
def rmX3_init : Room := { frames := 3, cells := 35, slots := 28000, locals := 54 }
def m_X3_init_B177 (lim : Nat) (rec177 : Option Nat → Int32 → SG → Option (Unit × SG)) (v0 : Option Nat) (v1 : Int32) (σ : SG) : Option (Unit × SG) :=
  (sGetR v0 3 3 σ).bind fun x1 =>
  (sLen x1 σ).bind fun x2 =>
  if x2 ≤ v1 then (
    sEnd lim σ
  ) else (
    (sGetR v0 3 3 σ).bind fun x4 =>
    bnd (sNew lim (.inl (4, [.int 0, .int 0, .int 0, .int 0, .int 0, .int 0, .int 0])) σ) fun x5 σ6 =>
    (sRoom lim 0 σ6).bind fun _ =>
    (sObj x5 4 σ6).bind fun _ =>
    bnd (m_X4_init x5 σ6) fun _ σ8 =>
    (sSame σ8.2 (σ6.2 + 0)).bind fun _ =>
    (sAstR x4 v1 x5 σ8).bind fun σ10 =>
    rec177 v0 ((v1 + 1)) σ10
  )
def m_X3_init_L177 (lim : Nat) (n : Nat) : Option Nat → Int32 → SG → Option (Unit × SG) := itF (fun _ _ _ => none) (m_X3_init_B177 lim ) n
def m_X3_init_B146 (lim : Nat) (rec146 : Option Nat → Int32 → SG → Option (Unit × SG)) (v0 : Option Nat) (v1 : Int32) (σ : SG) : Option (Unit × SG) :=
  (sGetR v0 3 2 σ).bind fun x11 =>
  (sLen x11 σ).bind fun x12 =>
  if x12 ≤ v1 then (
    m_X3_init_L177 lim 1000 v0 ((0 : Int32)) σ
  ) else (
    (sGetR v0 3 2 σ).bind fun x14 =>
    bnd (sNew lim (.inl (1, [.int 0, .int 0, .int 0, .int 0, .int 0, .int 0, .int 0])) σ) fun x15 σ16 =>
    (sRoom lim 0 σ16).bind fun _ =>
    (sObj x15 1 σ16).bind fun _ =>
    bnd (m_X1_init x15 v1 σ16) fun _ σ18 =>
    (sSame σ18.2 (σ16.2 + 0)).bind fun _ =>
    (sAstR x14 v1 x15 σ18).bind fun σ20 =>
    rec146 v0 ((v1 + 1)) σ20
  )
def m_X3_init_L146 (lim : Nat) (n : Nat) : Option Nat → Int32 → SG → Option (Unit × SG) := itF (fun _ _ _ => none) (m_X3_init_B146 lim ) n
def m_X3_init_B115 (lim : Nat) (rec115 : Option Nat → Int32 → SG → Option (Unit × SG)) (v0 : Option Nat) (v1 : Int32) (σ : SG) : Option (Unit × SG) :=
  (sGetR v0 3 1 σ).bind fun x21 =>
  (sLen x21 σ).bind fun x22 =>
  if x22 ≤ v1 then (
    m_X3_init_L146 lim 1000 v0 ((0 : Int32)) σ
  ) else (
    (sGetR v0 3 1 σ).bind fun x24 =>
    bnd (sNew lim (.inl (2, [.int 0, .int 0, .int 0, .int 0, .int 0, .int 0])) σ) fun x25 σ26 =>
    (sRoom lim 0 σ26).bind fun _ =>
    (sObj x25 2 σ26).bind fun _ =>
    bnd (m_X2_init x25 v1 σ26) fun _ σ28 =>
    (sSame σ28.2 (σ26.2 + 0)).bind fun _ =>
    (sAstR x24 v1 x25 σ28).bind fun σ30 =>
    rec115 v0 ((v1 + 1)) σ30
  )
def m_X3_init_L115 (lim : Nat) (n : Nat) : Option Nat → Int32 → SG → Option (Unit × SG) := itF (fun _ _ _ => none) (m_X3_init_B115 lim ) n
def m_X3_init_B84 (lim : Nat) (rec84 : Option Nat → Int32 → SG → Option (Unit × SG)) (v0 : Option Nat) (v1 : Int32) (σ : SG) : Option (Unit × SG) :=
  (sGetR v0 3 0 σ).bind fun x31 =>
  (sLen x31 σ).bind fun x32 =>
  if x32 ≤ v1 then (
    m_X3_init_L115 lim 1000 v0 ((0 : Int32)) σ
  ) else (
    (sGetR v0 3 0 σ).bind fun x34 =>
    bnd (sNew lim (.inl (6, [.int 0, .int 0, .int 0, .null, .int 0, .int 0, .int 0, .int 0, .int 0, .int 0])) σ) fun x35 σ36 =>
    (sRoom lim 1 σ36).bind fun _ =>
    (sObj x35 6 σ36).bind fun _ =>
    bnd (m_X6_init x35 v1 σ36) fun _ σ38 =>
    (sSame σ38.2 (σ36.2 + 1)).bind fun _ =>
    (sAstR x34 v1 x35 σ38).bind fun σ40 =>
    rec84 v0 ((v1 + 1)) σ40
  )
def m_X3_init_L84 (lim : Nat) (n : Nat) : Option Nat → Int32 → SG → Option (Unit × SG) := itF (fun _ _ _ => none) (m_X3_init_B84 lim ) n
def m_X3_init_e (lim : Nat) (a0 : Option Nat) (σ : SG) : Option (Unit × SG) :=
  (sNN a0).bind fun _ =>
  bnd (sNewQ lim 7 (5 : Int32) σ) fun x41 σ42 =>
  (sPutR a0 3 0 x41 σ42).bind fun σ44 =>
  bnd (sNewQ lim 4 (4 : Int32) σ44) fun x45 σ46 =>
  (sPutR a0 3 1 x45 σ46).bind fun σ48 =>
  bnd (sNewQ lim 3 (8 : Int32) σ48) fun x49 σ50 =>
  (sPutR a0 3 2 x49 σ50).bind fun σ52 =>
  bnd (sNewQ lim 6 (6 : Int32) σ52) fun x53 σ54 =>
  (sPutR a0 3 3 x53 σ54).bind fun σ56 =>
  bnd (sNewA lim 1 (4 : Int32) σ56) fun x57 σ58 =>
  (sAst x57 1 (0 : Int32) (6 : Int32) σ58).bind fun σ60 =>
  (sAst x57 1 (1 : Int32) (5 : Int32) σ60).bind fun σ61 =>
  (sAst x57 1 (2 : Int32) (4 : Int32) σ61).bind fun σ62 =>
  (sAst x57 1 (3 : Int32) (2 : Int32) σ62).bind fun σ63 =>
  (sPutR a0 3 4 x57 σ63).bind fun σ64 =>
  bnd (sNewA lim 1 (5 : Int32) σ64) fun x65 σ66 =>
  (sPutR a0 3 5 x65 σ66).bind fun σ68 =>
  (sPutI a0 3 6 (0 : Int32) σ68).bind fun σ69 =>
  bnd (sNewA lim 2 (6 : Int32) σ69) fun x70 σ71 =>
  (sPutR a0 3 7 x70 σ71).bind fun σ73 =>
  m_X3_init_L84 lim 1000 a0 ((0 : Int32)) σ73
def m_X3_init (a0 : Option Nat) (σ : SG) : Option (Unit × SG) := m_X3_init_e (σ.2 + 35) a0 σ
def rmX0_init : Room := { frames := 4, cells := 145, slots := 116000, locals := 75 }
def m_X0_init_B19 (lim : Nat) (rec19 : Option Nat → Int32 → SG → Option (Unit × SG)) (v0 : Option Nat) (v1 : Int32) (σ : SG) : Option (Unit × SG) :=
  (sGetR v0 0 0 σ).bind fun x1 =>
  (sLen x1 σ).bind fun x2 =>
  if x2 ≤ v1 then (
    sEnd lim σ
  ) else (
    (sGetR v0 0 0 σ).bind fun x4 =>
    bnd (sNew lim (.inl (3, [.null, .null, .null, .null, .null, .null, .int 0, .null])) σ) fun x5 σ6 =>
    (sRoom lim 35 σ6).bind fun _ =>
    (sObj x5 3 σ6).bind fun _ =>
    bnd (m_X3_init x5 σ6) fun _ σ8 =>
    (sSame σ8.2 (σ6.2 + 35)).bind fun _ =>
    (sAstR x4 v1 x5 σ8).bind fun σ10 =>
    rec19 v0 ((v1 + 1)) σ10
  )
def m_X0_init_L19 (lim : Nat) (n : Nat) : Option Nat → Int32 → SG → Option (Unit × SG) := itF (fun _ _ _ => none) (m_X0_init_B19 lim ) n
def m_X0_init_e (lim : Nat) (a0 : Option Nat) (σ : SG) : Option (Unit × SG) :=
  (sNN a0).bind fun _ =>
  bnd (sNewQ lim 5 (4 : Int32) σ) fun x11 σ12 =>
  (sPutR a0 0 0 x11 σ12).bind fun σ14 =>
  (sPutI a0 0 1 (0 : Int32) σ14).bind fun σ15 =>
  m_X0_init_L19 lim 1000 a0 ((0 : Int32)) σ15
def m_X0_init (a0 : Option Nat) (σ : SG) : Option (Unit × SG) := m_X0_init_e (σ.2 + 145) a0 σ
def rmX0_isEmpty : Room := { frames := 0, cells := 0, slots := 0, locals := 0 }
def m_X0_isEmpty (a0 : Option Nat) (σ : SG) : Option (Int32 × SG) :=
  (sGetI a0 0 1 σ).bind fun x1 =>
  if x1 = 0 then (
    chkZ (1 : Int32) σ
  ) else (
    chkZ (0 : Int32) σ
  )
def rmX0_dropOldest : Room := { frames := 0, cells := 0, slots := 0, locals := 0 }
def m_X0_dropOldest_B9 (rec9 : Option Nat → Option Nat → Int32 → SG → Option (Unit × SG)) (v0 : Option Nat) (v1 : Option Nat) (v2 : Int32) (σ : SG) : Option (Unit × SG) :=
  (sGetR v0 0 0 σ).bind fun x1 =>
  (sLen x1 σ).bind fun x2 =>
  if x2 ≤ v2 then (
    (sGetR v0 0 0 σ).bind fun x4 =>
    (sGetR v0 0 0 σ).bind fun x5 =>
    (sLen x5 σ).bind fun x6 =>
    (sAstR x4 (x6 - (1 : Int32)) v1 σ).bind fun σ7 =>
    (sGetI v0 0 1 σ7).bind fun x8 =>
    (sPutI v0 0 1 (x8 - (1 : Int32)) σ7).bind fun σ9 =>
    some ((), σ9)
  ) else (
    (sGetR v0 0 0 σ).bind fun x10 =>
    (sGetR v0 0 0 σ).bind fun x11 =>
    (sAldR x11 v2 σ).bind fun x12 =>
    (sAstR x10 (v2 - (1 : Int32)) x12 σ).bind fun σ13 =>
    rec9 v0 v1 ((v2 + 1)) σ13
  )
def m_X0_dropOldest_L9 (n : Nat) : Option Nat → Option Nat → Int32 → SG → Option (Unit × SG) := itF (fun _ _ _ _ => none) (m_X0_dropOldest_B9 ) n
def m_X0_dropOldest (a0 : Option Nat) (σ : SG) : Option (Unit × SG) :=
  (sGetR a0 0 0 σ).bind fun x14 =>
  (sAldR x14 (0 : Int32) σ).bind fun x15 =>
  m_X0_dropOldest_L9 1000 a0 x15 ((1 : Int32)) σ
def rmX7_copyThing : Room := { frames := 0, cells := 0, slots := 0, locals := 0 }
def m_X7_copyThing (a0 : Option Nat) (a1 : Option Nat) (σ : SG) : Option (Unit × SG) :=
  (sGetIT a1 [1, 2, 6] 1 σ).bind fun x1 =>
  (sPutZT a0 [1, 2, 6] 1 x1 σ).bind fun σ2 =>
  (sGetIT a1 [1, 2, 6] 2 σ2).bind fun x3 =>
  (sPutIT a0 [1, 2, 6] 2 x3 σ2).bind fun σ4 =>
  some ((), σ4)
def rmX8_copyRow : Room := { frames := 0, cells := 0, slots := 0, locals := 0 }
def m_X8_copyRow_B2 (rec2 : Option Nat → Option Nat → Int32 → SG → Option (Unit × SG)) (v0 : Option Nat) (v1 : Option Nat) (v2 : Int32) (σ : SG) : Option (Unit × SG) :=
  (sLen v0 σ).bind fun x1 =>
  if x1 ≤ v2 then (
    some ((), σ)
  ) else (
    (sLen v1 σ).bind fun x3 =>
    if x3 ≤ v2 then (
      some ((), σ)
    ) else (
      (sAld v0 1 v2 σ).bind fun x5 =>
      (sAst v1 1 v2 x5 σ).bind fun σ6 =>
      rec2 v0 v1 ((v2 + 1)) σ6
    )
  )
def m_X8_copyRow_L2 (n : Nat) : Option Nat → Option Nat → Int32 → SG → Option (Unit × SG) := itF (fun _ _ _ _ => none) (m_X8_copyRow_B2 ) n
def m_X8_copyRow (a0 : Option Nat) (a1 : Option Nat) (σ : SG) : Option (Unit × SG) :=
  m_X8_copyRow_L2 1000 a0 a1 ((0 : Int32)) σ
def rmX6_copyFrom : Room := { frames := 1, cells := 0, slots := 0, locals := 22 }
def m_X6_copyFrom (a0 : Option Nat) (a1 : Option Nat) (σ : SG) : Option (Unit × SG) :=
  (sObj a0 6 σ).bind fun _ =>
  bnd (m_X7_copyThing a0 a1 σ) fun _ σ1 =>
  (sGetR a1 6 3 σ1).bind fun x2 =>
  (sGetR a0 6 3 σ1).bind fun x3 =>
  bnd (m_X8_copyRow x2 x3 σ1) fun _ σ4 =>
  (sGetI a1 6 4 σ4).bind fun x5 =>
  (sPutI a0 6 4 x5 σ4).bind fun σ6 =>
  (sGetI a1 6 5 σ6).bind fun x7 =>
  (sPutI a0 6 5 x7 σ6).bind fun σ8 =>
  (sGetI a1 6 6 σ8).bind fun x9 =>
  (sPutZ a0 6 6 x9 σ8).bind fun σ10 =>
  (sGetI a1 6 7 σ10).bind fun x11 =>
  (sPutI a0 6 7 x11 σ10).bind fun σ12 =>
  (sGetI a1 6 8 σ12).bind fun x13 =>
  (sPutI a0 6 8 x13 σ12).bind fun σ14 =>
  (sGetI a1 6 9 σ14).bind fun x15 =>
  (sPutI a0 6 9 x15 σ14).bind fun σ16 =>
  some ((), σ16)
def rmX2_copyFrom : Room := { frames := 1, cells := 0, slots := 0, locals := 21 }
def m_X2_copyFrom (a0 : Option Nat) (a1 : Option Nat) (σ : SG) : Option (Unit × SG) :=
  (sObj a0 2 σ).bind fun _ =>
  bnd (m_X7_copyThing a0 a1 σ) fun _ σ1 =>
  (sGetI a1 2 3 σ1).bind fun x2 =>
  (sPutI a0 2 3 x2 σ1).bind fun σ3 =>
  (sGetI a1 2 4 σ3).bind fun x4 =>
  (sPutI a0 2 4 x4 σ3).bind fun σ5 =>
  (sGetI a1 2 5 σ5).bind fun x6 =>
  (sPutZ a0 2 5 x6 σ5).bind fun σ7 =>
  some ((), σ7)
def rmX1_copyFrom : Room := { frames := 1, cells := 0, slots := 0, locals := 21 }
def m_X1_copyFrom (a0 : Option Nat) (a1 : Option Nat) (σ : SG) : Option (Unit × SG) :=
  (sObj a0 1 σ).bind fun _ =>
  bnd (m_X7_copyThing a0 a1 σ) fun _ σ1 =>
  (sGetI a1 1 3 σ1).bind fun x2 =>
  (sPutI a0 1 3 x2 σ1).bind fun σ3 =>
  (sGetI a1 1 4 σ3).bind fun x4 =>
  (sPutI a0 1 4 x4 σ3).bind fun σ5 =>
  (sGetI a1 1 5 σ5).bind fun x6 =>
  (sPutI a0 1 5 x6 σ5).bind fun σ7 =>
  (sGetI a1 1 6 σ7).bind fun x8 =>
  (sPutZ a0 1 6 x8 σ7).bind fun σ9 =>
  some ((), σ9)
def rmX4_copyFrom : Room := { frames := 0, cells := 0, slots := 0, locals := 0 }
def m_X4_copyFrom (a0 : Option Nat) (a1 : Option Nat) (σ : SG) : Option (Unit × SG) :=
  (sGetI a1 4 0 σ).bind fun x1 =>
  (sPutZ a0 4 0 x1 σ).bind fun σ2 =>
  (sGetI a1 4 1 σ2).bind fun x3 =>
  (sPutI a0 4 1 x3 σ2).bind fun σ4 =>
  (sGetI a1 4 2 σ4).bind fun x5 =>
  (sPutI a0 4 2 x5 σ4).bind fun σ6 =>
  (sGetI a1 4 3 σ6).bind fun x7 =>
  (sPutI a0 4 3 x7 σ6).bind fun σ8 =>
  (sGetI a1 4 4 σ8).bind fun x9 =>
  (sPutI a0 4 4 x9 σ8).bind fun σ10 =>
  (sGetI a1 4 5 σ10).bind fun x11 =>
  (sPutI a0 4 5 x11 σ10).bind fun σ12 =>
  (sGetI a1 4 6 σ12).bind fun x13 =>
  (sPutI a0 4 6 x13 σ12).bind fun σ14 =>
  some ((), σ14)
def rmX3_copyFrom : Room := { frames := 2, cells := 0, slots := 0, locals := 43 }
def m_X3_copyFrom_b164 (v0 : Option Nat) (v1 : Option Nat) (σ : SG) : Option (Unit × SG) :=
  (sGetR v1 3 4 σ).bind fun x1 =>
  (sGetR v0 3 4 σ).bind fun x2 =>
  bnd (m_X8_copyRow x1 x2 σ) fun _ σ3 =>
  (sGetR v1 3 5 σ3).bind fun x4 =>
  (sGetR v0 3 5 σ3).bind fun x5 =>
  bnd (m_X8_copyRow x4 x5 σ3) fun _ σ6 =>
  (sGetI v1 3 6 σ6).bind fun x7 =>
  (sPutI v0 3 6 x7 σ6).bind fun σ8 =>
  some ((), σ8)
def m_X3_copyFrom_B125 (rec125 : Option Nat → Option Nat → Int32 → SG → Option (Unit × SG)) (v0 : Option Nat) (v1 : Option Nat) (v2 : Int32) (σ : SG) : Option (Unit × SG) :=
  (sGetR v0 3 3 σ).bind fun x9 =>
  (sLen x9 σ).bind fun x10 =>
  if x10 ≤ v2 then (
    m_X3_copyFrom_b164 v0 v1 σ
  ) else (
    (sGetR v1 3 3 σ).bind fun x12 =>
    (sLen x12 σ).bind fun x13 =>
    if x13 ≤ v2 then (
      m_X3_copyFrom_b164 v0 v1 σ
    ) else (
      (sGetR v0 3 3 σ).bind fun x15 =>
      (sAldR x15 v2 σ).bind fun x16 =>
      (sGetR v1 3 3 σ).bind fun x17 =>
      (sAldR x17 v2 σ).bind fun x18 =>
      (sObj x16 4 σ).bind fun _ =>
      bnd (m_X4_copyFrom x16 x18 σ) fun _ σ19 =>
      rec125 v0 v1 ((v2 + 1)) σ19
    )
  )
def m_X3_copyFrom_L125 (n : Nat) : Option Nat → Option Nat → Int32 → SG → Option (Unit × SG) := itF (fun _ _ _ _ => none) (m_X3_copyFrom_B125 ) n
def m_X3_copyFrom_b123 (v0 : Option Nat) (v1 : Option Nat) (σ : SG) : Option (Unit × SG) :=
  m_X3_copyFrom_L125 1000 v0 v1 ((0 : Int32)) σ
def m_X3_copyFrom_B84 (rec84 : Option Nat → Option Nat → Int32 → SG → Option (Unit × SG)) (v0 : Option Nat) (v1 : Option Nat) (v2 : Int32) (σ : SG) : Option (Unit × SG) :=
  (sGetR v0 3 2 σ).bind fun x20 =>
  (sLen x20 σ).bind fun x21 =>
  if x21 ≤ v2 then (
    m_X3_copyFrom_b123 v0 v1 σ
  ) else (
    (sGetR v1 3 2 σ).bind fun x23 =>
    (sLen x23 σ).bind fun x24 =>
    if x24 ≤ v2 then (
      m_X3_copyFrom_b123 v0 v1 σ
    ) else (
      (sGetR v0 3 2 σ).bind fun x26 =>
      (sAldR x26 v2 σ).bind fun x27 =>
      (sGetR v1 3 2 σ).bind fun x28 =>
      (sAldR x28 v2 σ).bind fun x29 =>
      (sObj x27 1 σ).bind fun _ =>
      bnd (m_X1_copyFrom x27 x29 σ) fun _ σ30 =>
      rec84 v0 v1 ((v2 + 1)) σ30
    )
  )
def m_X3_copyFrom_L84 (n : Nat) : Option Nat → Option Nat → Int32 → SG → Option (Unit × SG) := itF (fun _ _ _ _ => none) (m_X3_copyFrom_B84 ) n
def m_X3_copyFrom_b82 (v0 : Option Nat) (v1 : Option Nat) (σ : SG) : Option (Unit × SG) :=
  m_X3_copyFrom_L84 1000 v0 v1 ((0 : Int32)) σ
def m_X3_copyFrom_B43 (rec43 : Option Nat → Option Nat → Int32 → SG → Option (Unit × SG)) (v0 : Option Nat) (v1 : Option Nat) (v2 : Int32) (σ : SG) : Option (Unit × SG) :=
  (sGetR v0 3 1 σ).bind fun x31 =>
  (sLen x31 σ).bind fun x32 =>
  if x32 ≤ v2 then (
    m_X3_copyFrom_b82 v0 v1 σ
  ) else (
    (sGetR v1 3 1 σ).bind fun x34 =>
    (sLen x34 σ).bind fun x35 =>
    if x35 ≤ v2 then (
      m_X3_copyFrom_b82 v0 v1 σ
    ) else (
      (sGetR v0 3 1 σ).bind fun x37 =>
      (sAldR x37 v2 σ).bind fun x38 =>
      (sGetR v1 3 1 σ).bind fun x39 =>
      (sAldR x39 v2 σ).bind fun x40 =>
      (sObj x38 2 σ).bind fun _ =>
      bnd (m_X2_copyFrom x38 x40 σ) fun _ σ41 =>
      rec43 v0 v1 ((v2 + 1)) σ41
    )
  )
def m_X3_copyFrom_L43 (n : Nat) : Option Nat → Option Nat → Int32 → SG → Option (Unit × SG) := itF (fun _ _ _ _ => none) (m_X3_copyFrom_B43 ) n
def m_X3_copyFrom_b41 (v0 : Option Nat) (v1 : Option Nat) (σ : SG) : Option (Unit × SG) :=
  m_X3_copyFrom_L43 1000 v0 v1 ((0 : Int32)) σ
def m_X3_copyFrom_B2 (rec2 : Option Nat → Option Nat → Int32 → SG → Option (Unit × SG)) (v0 : Option Nat) (v1 : Option Nat) (v2 : Int32) (σ : SG) : Option (Unit × SG) :=
  (sGetR v0 3 0 σ).bind fun x42 =>
  (sLen x42 σ).bind fun x43 =>
  if x43 ≤ v2 then (
    m_X3_copyFrom_b41 v0 v1 σ
  ) else (
    (sGetR v1 3 0 σ).bind fun x45 =>
    (sLen x45 σ).bind fun x46 =>
    if x46 ≤ v2 then (
      m_X3_copyFrom_b41 v0 v1 σ
    ) else (
      (sGetR v0 3 0 σ).bind fun x48 =>
      (sAldR x48 v2 σ).bind fun x49 =>
      (sGetR v1 3 0 σ).bind fun x50 =>
      (sAldR x50 v2 σ).bind fun x51 =>
      (sObj x49 6 σ).bind fun _ =>
      bnd (m_X6_copyFrom x49 x51 σ) fun _ σ52 =>
      rec2 v0 v1 ((v2 + 1)) σ52
    )
  )
def m_X3_copyFrom_L2 (n : Nat) : Option Nat → Option Nat → Int32 → SG → Option (Unit × SG) := itF (fun _ _ _ _ => none) (m_X3_copyFrom_B2 ) n
def m_X3_copyFrom (a0 : Option Nat) (a1 : Option Nat) (σ : SG) : Option (Unit × SG) :=
  m_X3_copyFrom_L2 1000 a0 a1 ((0 : Int32)) σ
def rmX0_keep : Room := { frames := 3, cells := 0, slots := 0, locals := 65 }
def m_X0_keep_b16 (v0 : Option Nat) (v1 : Option Nat) (σ : SG) : Option (Unit × SG) :=
  (sGetI v0 0 1 σ).bind fun x1 =>
  if x1 < 0 then (
    some ((), σ)
  ) else (
    (sGetI v0 0 1 σ).bind fun x3 =>
    (sGetR v0 0 0 σ).bind fun x4 =>
    (sLen x4 σ).bind fun x5 =>
    if x5 ≤ x3 then (
      some ((), σ)
    ) else (
      (sGetR v0 0 0 σ).bind fun x7 =>
      (sGetI v0 0 1 σ).bind fun x8 =>
      (sAldR x7 x8 σ).bind fun x9 =>
      (sObj x9 3 σ).bind fun _ =>
      bnd (m_X3_copyFrom x9 v1 σ) fun _ σ10 =>
      (sGetI v0 0 1 σ10).bind fun x11 =>
      (sPutI v0 0 1 (x11 + (1 : Int32)) σ10).bind fun σ12 =>
      some ((), σ12)
    )
  )
def m_X0_keep (a0 : Option Nat) (a1 : Option Nat) (σ : SG) : Option (Unit × SG) :=
  (sGetI a0 0 1 σ).bind fun x13 =>
  (sGetR a0 0 0 σ).bind fun x14 =>
  (sLen x14 σ).bind fun x15 =>
  if x13 < x15 then (
    m_X0_keep_b16 a0 a1 σ
  ) else (
    (sObj a0 0 σ).bind fun _ =>
    bnd (m_X0_dropOldest a0 σ) fun _ σ17 =>
    m_X0_keep_b16 a0 a1 σ17
  )
def rmX0_takeBack : Room := { frames := 3, cells := 0, slots := 0, locals := 65 }
def m_X0_takeBack (a0 : Option Nat) (a1 : Option Nat) (σ : SG) : Option (Unit × SG) :=
  (sGetI a0 0 1 σ).bind fun x1 =>
  if x1 ≤ 0 then (
    some ((), σ)
  ) else (
    (sGetI a0 0 1 σ).bind fun x3 =>
    (sGetR a0 0 0 σ).bind fun x4 =>
    (sLen x4 σ).bind fun x5 =>
    if x5 < x3 then (
      some ((), σ)
    ) else (
      (sGetI a0 0 1 σ).bind fun x7 =>
      (sPutI a0 0 1 (x7 - (1 : Int32)) σ).bind fun σ8 =>
      (sGetR a0 0 0 σ8).bind fun x9 =>
      (sGetI a0 0 1 σ8).bind fun x10 =>
      (sAldR x9 x10 σ8).bind fun x11 =>
      (sObj a1 3 σ8).bind fun _ =>
      bnd (m_X3_copyFrom a1 x11 σ8) fun _ σ12 =>
      some ((), σ12)
    )
  )
def rmX1_put : Room := { frames := 0, cells := 0, slots := 0, locals := 0 }
def m_X1_put (a0 : Option Nat) (a1 : Int32) (a2 : Int32) (a3 : Int32) (σ : SG) : Option (Unit × SG) :=
  (sPutZ a0 1 1 (1 : Int32) σ).bind fun σ1 =>
  (sPutI a0 1 2 a1 σ1).bind fun σ2 =>
  (sPutI a0 1 3 a2 σ2).bind fun σ3 =>
  (sPutI a0 1 4 a3 σ3).bind fun σ4 =>
  (sPutI a0 1 5 (0 : Int32) σ4).bind fun σ5 =>
  (sPutZ a0 1 6 (0 : Int32) σ5).bind fun σ6 =>
  some ((), σ6)
def rmX1_isCalledBy : Room := { frames := 0, cells := 0, slots := 0, locals := 0 }
def m_X1_isCalledBy (a0 : Option Nat) (a1 : Int32) (a2 : Int32) (σ : SG) : Option (Int32 × SG) :=
  (sGetI a0 1 1 σ).bind fun x1 =>
  if x1 = 0 then (
    chkZ (0 : Int32) σ
  ) else (
    (sGetI a0 1 2 σ).bind fun x3 =>
    if x3 = a1 then (
      (sGetI a0 1 3 σ).bind fun x5 =>
      if x5 = a2 then (
        chkZ (1 : Int32) σ
      ) else (
        chkZ (0 : Int32) σ
      )
    ) else (
      chkZ (0 : Int32) σ
    )
  )
def rmX1_levelBy : Room := { frames := 0, cells := 0, slots := 0, locals := 0 }
def m_X1_levelBy (a0 : Option Nat) (a1 : Int32) (σ : SG) : Option (Int32 × SG) :=
  swK a1 [
    (4, (
      some ((9 : Int32), σ)
    )),
    (5, (
      some ((0 : Int32), σ)
    )),
    (6, (
      (sGetI a0 1 5 σ).bind fun x1 =>
      if (9 : Int32) ≤ x1 then (
        some ((9 : Int32), σ)
      ) else (
        (sGetI a0 1 5 σ).bind fun x3 =>
        some ((x3 + (1 : Int32)), σ)
      )
    ))
  ] (
    (sGetI a0 1 5 σ).bind fun x4 =>
    some (x4, σ)
  )
def rmX1_obey : Room := { frames := 1, cells := 0, slots := 0, locals := 21 }
def m_X1_obey_b30 (s0 : Option Nat) (s1 : Int32) (σ : SG) : Option (Unit × SG) :=
  (sPutZ s0 1 6 s1 σ).bind fun σ1 =>
  some ((), σ1)
def m_X1_obey_b29 (s0 : Option Nat) (σ : SG) : Option (Unit × SG) :=
  m_X1_obey_b30 s0 ((0 : Int32)) σ
def m_X1_obey_b25 (s0 : Option Nat) (σ : SG) : Option (Unit × SG) :=
  m_X1_obey_b30 s0 ((1 : Int32)) σ
def m_X1_obey (a0 : Option Nat) (a1 : Int32) (a2 : Int32) (σ : SG) : Option (Unit × SG) :=
  if (4 : Int32) ≤ a1 then (
    if a1 = (7 : Int32) then (
      (sPutI a0 1 5 (0 : Int32) σ).bind fun σ4 =>
      some ((), σ4)
    ) else (
      (sGetI a0 1 6 σ).bind fun x5 =>
      if x5 = 0 then (
        some ((), σ)
      ) else (
        (sObj a0 1 σ).bind fun _ =>
        bnd (m_X1_levelBy a0 a1 σ) fun r7 σ8 =>
        (sPutI a0 1 5 r7 σ8).bind fun σ9 =>
        some ((), σ9)
      )
    )
  ) else (
    (sGetI a0 1 4 σ).bind fun x10 =>
    if x10 = a1 then (
      m_X1_obey_b25 a0 σ
    ) else (
      (sGetI a0 1 6 σ).bind fun x12 =>
      if x12 = 0 then (
        m_X1_obey_b29 a0 σ
      ) else (
        if a2 = 0 then (
          m_X1_obey_b29 a0 σ
        ) else (
          m_X1_obey_b25 a0 σ
        )
      )
    )
  )
def rmX2_put : Room := { frames := 0, cells := 0, slots := 0, locals := 0 }
def m_X2_put (a0 : Option Nat) (a1 : Int32) (a2 : Int32) (a3 : Int32) (σ : SG) : Option (Unit × SG) :=
  (sPutZ a0 2 1 (1 : Int32) σ).bind fun σ1 =>
  (sPutI a0 2 2 a1 σ1).bind fun σ2 =>
  (sPutI a0 2 3 a2 σ2).bind fun σ3 =>
  (sPutI a0 2 4 a3 σ3).bind fun σ4 =>
  (sPutZ a0 2 5 (1 : Int32) σ4).bind fun σ5 =>
  some ((), σ5)
def rmX2_makesNoiseAt : Room := { frames := 0, cells := 0, slots := 0, locals := 0 }
def m_X2_makesNoiseAt (a0 : Option Nat) (a1 : Int32) (σ : SG) : Option (Int32 × SG) :=
  (sGetI a0 2 1 σ).bind fun x1 =>
  if x1 = 0 then (
    chkZ (0 : Int32) σ
  ) else (
    (sGetI a0 2 5 σ).bind fun x3 =>
    if x3 = 0 then (
      chkZ (0 : Int32) σ
    ) else (
      (sGetI a0 2 4 σ).bind fun x5 =>
      if x5 ≤ 0 then (
        chkZ (0 : Int32) σ
      ) else (
        (sGetI a0 2 4 σ).bind fun x7 =>
        if x7 = 0 then none else
        if (a1 - a1 / x7 * x7) = 0 then (
          chkZ (1 : Int32) σ
        ) else (
          chkZ (0 : Int32) σ
        )
      )
    )
  )
def rmX3_thingsOf : Room := { frames := 0, cells := 0, slots := 0, locals := 0 }
def m_X3_thingsOf (a0 : Option Nat) (a1 : Int32) (σ : SG) : Option (Option Nat × SG) :=
  swK a1 [
    (0, (
      (sGetR a0 3 0 σ).bind fun x1 =>
      some (x1, σ)
    )),
    (1, (
      (sGetR a0 3 1 σ).bind fun x2 =>
      some (x2, σ)
    )),
    (2, (
      (sGetR a0 3 2 σ).bind fun x3 =>
      some (x3, σ)
    ))
  ] (
    some (none, σ)
  )
def rmX8_firstFree : Room := { frames := 0, cells := 0, slots := 0, locals := 0 }
def m_X8_firstFree_B7 (rec7 : Option Nat → Int32 → Int32 → SG → Option (Option Nat × SG)) (v1 : Option Nat) (v2 : Int32) (v3 : Int32) (σ : SG) : Option (Option Nat × SG) :=
  if v2 ≤ v3 then (
    some (none, σ)
  ) else (
    (sAldR v1 v3 σ).bind fun x2 =>
    (sGetIT x2 [1, 2, 6] 1 σ).bind fun x3 =>
    if x3 = 0 then (
      some (x2, σ)
    ) else (
      rec7 v1 v2 ((v3 + 1)) σ
    )
  )
def m_X8_firstFree_L7 (n : Nat) : Option Nat → Int32 → Int32 → SG → Option (Option Nat × SG) := itF (fun _ _ _ _ => none) (m_X8_firstFree_B7 ) n
def m_X8_firstFree (a0 : Option Nat) (σ : SG) : Option (Option Nat × SG) :=
  (sLen a0 σ).bind fun x5 =>
  m_X8_firstFree_L7 1000 a0 x5 ((0 : Int32)) σ
def rmX3_freeSender : Room := { frames := 1, cells := 0, slots := 0, locals := 24 }
def m_X3_freeSender (a0 : Option Nat) (σ : SG) : Option (Option Nat × SG) :=
  (sGetR a0 3 0 σ).bind fun x1 =>
  bnd (m_X8_firstFree x1 σ) fun r2 σ3 =>
  (sInst r2 6 σ3).bind fun x4 =>
  if x4 = 0 then (
    some (none, σ3)
  ) else (
    (sCast r2 6 σ3).bind fun _ =>
    some (r2, σ3)
  )
def rmX8_presentAt : Room := { frames := 0, cells := 0, slots := 0, locals := 0 }
def m_X8_presentAt_b10 (σ : SG) : Option (Option Nat × SG) :=
  some (none, σ)
def m_X8_presentAt (a0 : Option Nat) (a1 : Int32) (σ : SG) : Option (Option Nat × SG) :=
  if a1 < 0 then (
    m_X8_presentAt_b10 σ
  ) else (
    (sLen a0 σ).bind fun x2 =>
    if a1 < x2 then (
      (sAldR a0 a1 σ).bind fun x4 =>
      (sGetIT x4 [1, 2, 6] 1 σ).bind fun x5 =>
      if x5 = 0 then (
        some (none, σ)
      ) else (
        (sAldR a0 a1 σ).bind fun x7 =>
        some (x7, σ)
      )
    ) else (
      m_X8_presentAt_b10 σ
    )
  )
def rmX3_senderAt : Room := { frames := 1, cells := 0, slots := 0, locals := 21 }
def m_X3_senderAt (a0 : Option Nat) (a1 : Int32) (σ : SG) : Option (Option Nat × SG) :=
  (sGetR a0 3 0 σ).bind fun x1 =>
  bnd (m_X8_presentAt x1 a1 σ) fun r2 σ3 =>
  (sInst r2 6 σ3).bind fun x4 =>
  if x4 = 0 then (
    some (none, σ3)
  ) else (
    (sCast r2 6 σ3).bind fun _ =>
    some (r2, σ3)
  )
def rmX3_freeMachine : Room := { frames := 1, cells := 0, slots := 0, locals := 24 }
def m_X3_freeMachine (a0 : Option Nat) (σ : SG) : Option (Option Nat × SG) :=
  (sGetR a0 3 1 σ).bind fun x1 =>
  bnd (m_X8_firstFree x1 σ) fun r2 σ3 =>
  (sInst r2 2 σ3).bind fun x4 =>
  if x4 = 0 then (
    some (none, σ3)
  ) else (
    (sCast r2 2 σ3).bind fun _ =>
    some (r2, σ3)
  )
def rmX3_machineAt : Room := { frames := 1, cells := 0, slots := 0, locals := 21 }
def m_X3_machineAt (a0 : Option Nat) (a1 : Int32) (σ : SG) : Option (Option Nat × SG) :=
  (sGetR a0 3 1 σ).bind fun x1 =>
  bnd (m_X8_presentAt x1 a1 σ) fun r2 σ3 =>
  (sInst r2 2 σ3).bind fun x4 =>
  if x4 = 0 then (
    some (none, σ3)
  ) else (
    (sCast r2 2 σ3).bind fun _ =>
    some (r2, σ3)
  )
def rmX3_freeLamp : Room := { frames := 1, cells := 0, slots := 0, locals := 24 }
def m_X3_freeLamp (a0 : Option Nat) (σ : SG) : Option (Option Nat × SG) :=
  (sGetR a0 3 2 σ).bind fun x1 =>
  bnd (m_X8_firstFree x1 σ) fun r2 σ3 =>
  (sInst r2 1 σ3).bind fun x4 =>
  if x4 = 0 then (
    some (none, σ3)
  ) else (
    (sCast r2 1 σ3).bind fun _ =>
    some (r2, σ3)
  )
def rmX3_lampAt : Room := { frames := 1, cells := 0, slots := 0, locals := 21 }
def m_X3_lampAt (a0 : Option Nat) (a1 : Int32) (σ : SG) : Option (Option Nat × SG) :=
  (sGetR a0 3 2 σ).bind fun x1 =>
  bnd (m_X8_presentAt x1 a1 σ) fun r2 σ3 =>
  (sInst r2 1 σ3).bind fun x4 =>
  if x4 = 0 then (
    some (none, σ3)
  ) else (
    (sCast r2 1 σ3).bind fun _ =>
    some (r2, σ3)
  )
def rmX6_isSpeaking : Room := { frames := 0, cells := 0, slots := 0, locals := 0 }
def m_X6_isSpeaking (a0 : Option Nat) (σ : SG) : Option (Int32 × SG) :=
  (sGetI a0 6 1 σ).bind fun x1 =>
  if x1 = 0 then (
    chkZ (0 : Int32) σ
  ) else (
    (sGetI a0 6 6 σ).bind fun x3 =>
    if x3 = 0 then (
      chkZ (0 : Int32) σ
    ) else (
      chkZ (1 : Int32) σ
    )
  )
def rmX8_asNumber : Room := { frames := 0, cells := 0, slots := 0, locals := 0 }
def m_X8_asNumber (a0 : Int32) (σ : SG) : Option (Int32 × SG) :=
  if a0 = 0 then (
    some ((0 : Int32), σ)
  ) else (
    some ((1 : Int32), σ)
  )
def rmX3_speakingSenders : Room := { frames := 1, cells := 0, slots := 0, locals := 20 }
def m_X3_speakingSenders_B13 (rec13 : Int32 → Option Nat → Int32 → Int32 → SG → Option (Int32 × SG)) (v1 : Int32) (v2 : Option Nat) (v3 : Int32) (v4 : Int32) (σ : SG) : Option (Int32 × SG) :=
  if v3 ≤ v4 then (
    some (v1, σ)
  ) else (
    (sAldR v2 v4 σ).bind fun x2 =>
    (sObj x2 6 σ).bind fun _ =>
    bnd (m_X6_isSpeaking x2 σ) fun r3 σ4 =>
    bnd (m_X8_asNumber r3 σ4) fun r5 σ6 =>
    rec13 ((v1 + r5)) v2 v3 ((v4 + 1)) σ6
  )
def m_X3_speakingSenders_L13 (n : Nat) : Int32 → Option Nat → Int32 → Int32 → SG → Option (Int32 × SG) := itF (fun _ _ _ _ _ => none) (m_X3_speakingSenders_B13 ) n
def m_X3_speakingSenders (a0 : Option Nat) (σ : SG) : Option (Int32 × SG) :=
  (sGetR a0 3 0 σ).bind fun x7 =>
  (sLen x7 σ).bind fun x8 =>
  m_X3_speakingSenders_L13 1000 ((0 : Int32)) x7 x8 ((0 : Int32)) σ
def rmX3_queuedWords : Room := { frames := 0, cells := 0, slots := 0, locals := 0 }
def m_X3_queuedWords_b41 (rec13 : Int32 → Option Nat → Int32 → Int32 → SG → Option (Int32 × SG)) (v1 : Int32) (v2 : Option Nat) (v3 : Int32) (v4 : Int32) (σ : SG) : Option (Int32 × SG) :=
  rec13 v1 v2 v3 ((v4 + 1)) σ
def m_X3_queuedWords_B13 (rec13 : Int32 → Option Nat → Int32 → Int32 → SG → Option (Int32 × SG)) (v1 : Int32) (v2 : Option Nat) (v3 : Int32) (v4 : Int32) (σ : SG) : Option (Int32 × SG) :=
  if v3 ≤ v4 then (
    some (v1, σ)
  ) else (
    (sAldR v2 v4 σ).bind fun x2 =>
    (sGetI x2 6 1 σ).bind fun x3 =>
    if x3 = 0 then (
      m_X3_queuedWords_b41 rec13 v1 v2 v3 v4 σ
    ) else (
      (sGetI x2 6 4 σ).bind fun x5 =>
      m_X3_queuedWords_b41 rec13 ((v1 + x5)) v2 v3 v4 σ
    )
  )
def m_X3_queuedWords_L13 (n : Nat) : Int32 → Option Nat → Int32 → Int32 → SG → Option (Int32 × SG) := itF (fun _ _ _ _ _ => none) (m_X3_queuedWords_B13 ) n
def m_X3_queuedWords (a0 : Option Nat) (σ : SG) : Option (Int32 × SG) :=
  (sGetR a0 3 0 σ).bind fun x6 =>
  (sLen x6 σ).bind fun x7 =>
  m_X3_queuedWords_L13 1000 ((0 : Int32)) x6 x7 ((0 : Int32)) σ
def rmX3_litLamps : Room := { frames := 1, cells := 0, slots := 0, locals := 20 }
def m_X3_litLamps_b47 (rec13 : Int32 → Option Nat → Int32 → Int32 → SG → Option (Int32 × SG)) (v2 : Option Nat) (v3 : Int32) (v4 : Int32) (s0 : Int32) (s1 : Int32) (σ : SG) : Option (Int32 × SG) :=
  bnd (m_X8_asNumber s1 σ) fun r1 σ2 =>
  rec13 ((s0 + r1)) v2 v3 ((v4 + 1)) σ2
def m_X3_litLamps_b46 (rec13 : Int32 → Option Nat → Int32 → Int32 → SG → Option (Int32 × SG)) (v2 : Option Nat) (v3 : Int32) (v4 : Int32) (s0 : Int32) (σ : SG) : Option (Int32 × SG) :=
  m_X3_litLamps_b47 rec13 v2 v3 v4 s0 ((0 : Int32)) σ
def m_X3_litLamps_B13 (rec13 : Int32 → Option Nat → Int32 → Int32 → SG → Option (Int32 × SG)) (v1 : Int32) (v2 : Option Nat) (v3 : Int32) (v4 : Int32) (σ : SG) : Option (Int32 × SG) :=
  if v3 ≤ v4 then (
    some (v1, σ)
  ) else (
    (sAldR v2 v4 σ).bind fun x4 =>
    (sGetI x4 1 1 σ).bind fun x5 =>
    if x5 = 0 then (
      m_X3_litLamps_b46 rec13 v2 v3 v4 v1 σ
    ) else (
      (sGetI x4 1 5 σ).bind fun x7 =>
      if x7 ≤ 0 then (
        m_X3_litLamps_b46 rec13 v2 v3 v4 v1 σ
      ) else (
        m_X3_litLamps_b47 rec13 v2 v3 v4 v1 ((1 : Int32)) σ
      )
    )
  )
def m_X3_litLamps_L13 (n : Nat) : Int32 → Option Nat → Int32 → Int32 → SG → Option (Int32 × SG) := itF (fun _ _ _ _ _ => none) (m_X3_litLamps_B13 ) n
def m_X3_litLamps (a0 : Option Nat) (σ : SG) : Option (Int32 × SG) :=
  (sGetR a0 3 2 σ).bind fun x9 =>
  (sLen x9 σ).bind fun x10 =>
  m_X3_litLamps_L13 1000 ((0 : Int32)) x9 x10 ((0 : Int32)) σ
def rmX8_isWord : Room := { frames := 0, cells := 0, slots := 0, locals := 0 }
def m_X8_isWord (a0 : Int32) (σ : SG) : Option (Int32 × SG) :=
  if a0 < 0 then (
    chkZ (0 : Int32) σ
  ) else (
    if (32 : Int32) ≤ a0 then (
      chkZ (0 : Int32) σ
    ) else (
      chkZ (1 : Int32) σ
    )
  )
def rmX6_isQueueFull : Room := { frames := 0, cells := 0, slots := 0, locals := 0 }
def m_X6_isQueueFull (a0 : Option Nat) (σ : SG) : Option (Int32 × SG) :=
  (sGetI a0 6 4 σ).bind fun x1 =>
  (sGetR a0 6 3 σ).bind fun x2 =>
  (sLen x2 σ).bind fun x3 =>
  if x1 < x3 then (
    chkZ (0 : Int32) σ
  ) else (
    chkZ (1 : Int32) σ
  )
def rmX3_refusalOfWord : Room := { frames := 2, cells := 0, slots := 0, locals := 44 }
def m_X3_refusalOfWord (a0 : Option Nat) (a1 : Int32) (a2 : Int32) (σ : SG) : Option (Int32 × SG) :=
  (sObj a0 3 σ).bind fun _ =>
  bnd (m_X3_senderAt a0 a1 σ) fun r1 σ2 =>
  if r1 = none then (
    some ((-1 : Int32), σ2)
  ) else (
    bnd (m_X8_isWord a2 σ2) fun r4 σ5 =>
    if r4 = 0 then (
      some ((-2 : Int32), σ5)
    ) else (
      (sObj r1 6 σ5).bind fun _ =>
      bnd (m_X6_isQueueFull r1 σ5) fun r7 σ8 =>
      if r7 = 0 then (
        some ((0 : Int32), σ8)
      ) else (
        some ((-3 : Int32), σ8)
      )
    )
  )
def rmX6_addWord : Room := { frames := 0, cells := 0, slots := 0, locals := 0 }
def m_X6_addWord (a0 : Option Nat) (a1 : Int32) (σ : SG) : Option (Unit × SG) :=
  (sGetI a0 6 4 σ).bind fun x1 =>
  if x1 < 0 then (
    some ((), σ)
  ) else (
    (sGetI a0 6 4 σ).bind fun x3 =>
    (sGetR a0 6 3 σ).bind fun x4 =>
    (sLen x4 σ).bind fun x5 =>
    if x5 ≤ x3 then (
      some ((), σ)
    ) else (
      (sGetR a0 6 3 σ).bind fun x7 =>
      (sGetI a0 6 4 σ).bind fun x8 =>
      (sAst x7 1 x8 a1 σ).bind fun σ9 =>
      (sGetI a0 6 4 σ9).bind fun x10 =>
      (sPutI a0 6 4 (x10 + (1 : Int32)) σ9).bind fun σ11 =>
      some ((), σ11)
    )
  )
def rmX3_giveWord : Room := { frames := 2, cells := 0, slots := 0, locals := 44 }
def m_X3_giveWord (a0 : Option Nat) (a1 : Int32) (a2 : Int32) (σ : SG) : Option (Int32 × SG) :=
  (sObj a0 3 σ).bind fun _ =>
  bnd (m_X3_senderAt a0 a1 σ) fun r1 σ2 =>
  if r1 = none then (
    some ((-1 : Int32), σ2)
  ) else (
    (sObj r1 6 σ2).bind fun _ =>
    bnd (m_X6_addWord r1 a2 σ2) fun _ σ4 =>
    (sGetI r1 6 4 σ4).bind fun x5 =>
    some (x5, σ4)
  )
def rmX3_lossBetween : Room := { frames := 0, cells := 0, slots := 0, locals := 0 }
def m_X3_lossBetween_b39 (v3 : Int32) (s0 : Int32) (σ : SG) : Option (Int32 × SG) :=
  some ((v3 + s0), σ)
def m_X3_lossBetween_b19 (v0 : Option Nat) (v1 : Int32) (v2 : Int32) (s0 : Int32) (σ : SG) : Option (Int32 × SG) :=
  if (3 : Int32) = 0 then none else
  if (3 : Int32) = 0 then none else
  if (v1 / (3 : Int32)) = (v2 / (3 : Int32)) then (
    m_X3_lossBetween_b39 s0 ((0 : Int32)) σ
  ) else (
    (sGetR v0 3 4 σ).bind fun x2 =>
    (sAld x2 1 (1 : Int32) σ).bind fun x3 =>
    m_X3_lossBetween_b39 s0 x3 σ
  )
def m_X3_lossBetween (a0 : Option Nat) (a1 : Int32) (a2 : Int32) (σ : SG) : Option (Int32 × SG) :=
  if (3 : Int32) = 0 then none else
  if (3 : Int32) = 0 then none else
  if (a1 - a1 / (3 : Int32) * (3 : Int32)) = (a2 - a2 / (3 : Int32) * (3 : Int32)) then (
    m_X3_lossBetween_b19 a0 a1 a2 ((0 : Int32)) σ
  ) else (
    (sGetR a0 3 4 σ).bind fun x5 =>
    (sAld x5 1 (0 : Int32) σ).bind fun x6 =>
    m_X3_lossBetween_b19 a0 a1 a2 x6 σ
  )
def rmX4_isQuiet : Room := { frames := 0, cells := 0, slots := 0, locals := 0 }
def m_X4_isQuiet (a0 : Option Nat) (σ : SG) : Option (Int32 × SG) :=
  (sGetI a0 4 0 σ).bind fun x1 =>
  if x1 = 0 then (
    (sGetI a0 4 1 σ).bind fun x3 =>
    if x3 = 0 then (
      chkZ (1 : Int32) σ
    ) else (
      chkZ (0 : Int32) σ
    )
  ) else (
    chkZ (0 : Int32) σ
  )
def rmX3_isQuietOn : Room := { frames := 1, cells := 0, slots := 0, locals := 20 }
def m_X3_isQuietOn (a0 : Option Nat) (a1 : Int32) (σ : SG) : Option (Int32 × SG) :=
  if a1 < 0 then (
    chkZ (0 : Int32) σ
  ) else (
    (sGetR a0 3 3 σ).bind fun x2 =>
    (sLen x2 σ).bind fun x3 =>
    if x3 ≤ a1 then (
      chkZ (0 : Int32) σ
    ) else (
      (sGetR a0 3 3 σ).bind fun x5 =>
      (sAldR x5 a1 σ).bind fun x6 =>
      (sObj x6 4 σ).bind fun _ =>
      bnd (m_X4_isQuiet x6 σ) fun r7 σ8 =>
      if r7 = 0 then (
        chkZ (0 : Int32) σ8
      ) else (
        chkZ (1 : Int32) σ8
      )
    )
  )
def rmX6_beginOrWait : Room := { frames := 0, cells := 0, slots := 0, locals := 0 }
def m_X6_beginOrWait (a0 : Option Nat) (a1 : Int32) (σ : SG) : Option (Unit × SG) :=
  (sGetI a0 6 6 σ).bind fun x1 =>
  if x1 = 0 then (
    (sGetI a0 6 9 σ).bind fun x3 =>
    if x3 ≤ 0 then (
      (sGetI a0 6 4 σ).bind fun x5 =>
      if x5 ≤ 0 then (
        some ((), σ)
      ) else (
        if a1 = 0 then (
          some ((), σ)
        ) else (
          (sPutZ a0 6 6 (1 : Int32) σ).bind fun σ8 =>
          (sPutI a0 6 7 (0 : Int32) σ8).bind fun σ9 =>
          (sPutI a0 6 8 (0 : Int32) σ9).bind fun σ10 =>
          some ((), σ10)
        )
      )
    ) else (
      (sGetI a0 6 9 σ).bind fun x11 =>
      (sPutI a0 6 9 (x11 - (1 : Int32)) σ).bind fun σ12 =>
      some ((), σ12)
    )
  ) else (
    some ((), σ)
  )
def rmX3_beginSpeaking : Room := { frames := 2, cells := 0, slots := 0, locals := 41 }
def m_X3_beginSpeaking_b42 (rec10 : Option Nat → Option Nat → Int32 → Int32 → SG → Option (Unit × SG)) (v0 : Option Nat) (v1 : Option Nat) (v2 : Int32) (v3 : Int32) (σ : SG) : Option (Unit × SG) :=
  rec10 v0 v1 v2 ((v3 + 1)) σ
def m_X3_beginSpeaking_B10 (rec10 : Option Nat → Option Nat → Int32 → Int32 → SG → Option (Unit × SG)) (v0 : Option Nat) (v1 : Option Nat) (v2 : Int32) (v3 : Int32) (σ : SG) : Option (Unit × SG) :=
  if v2 ≤ v3 then (
    some ((), σ)
  ) else (
    (sAldR v1 v3 σ).bind fun x2 =>
    (sGetI x2 6 1 σ).bind fun x3 =>
    if x3 = 0 then (
      m_X3_beginSpeaking_b42 rec10 v0 v1 v2 v3 σ
    ) else (
      (sGetI x2 6 2 σ).bind fun x5 =>
      (sObj v0 3 σ).bind fun _ =>
      bnd (m_X3_isQuietOn v0 x5 σ) fun r6 σ7 =>
      (sObj x2 6 σ7).bind fun _ =>
      bnd (m_X6_beginOrWait x2 r6 σ7) fun _ σ8 =>
      m_X3_beginSpeaking_b42 rec10 v0 v1 v2 v3 σ8
    )
  )
def m_X3_beginSpeaking_L10 (n : Nat) : Option Nat → Option Nat → Int32 → Int32 → SG → Option (Unit × SG) := itF (fun _ _ _ _ _ => none) (m_X3_beginSpeaking_B10 ) n
def m_X3_beginSpeaking (a0 : Option Nat) (σ : SG) : Option (Unit × SG) :=
  (sGetR a0 3 0 σ).bind fun x9 =>
  (sLen x9 σ).bind fun x10 =>
  m_X3_beginSpeaking_L10 1000 a0 x9 x10 ((0 : Int32)) σ
def rmX8_frameBit : Room := { frames := 0, cells := 0, slots := 0, locals := 0 }
def m_X8_frameBit (a0 : Int32) (a1 : Int32) (σ : SG) : Option (Int32 × SG) :=
  if (4 : Int32) ≤ a1 then (
    if (2 : Int32) = 0 then none else
    if (2 : Int32) = 0 then none else
    if (a1 - a1 / (2 : Int32) * (2 : Int32)) = 0 then (
      some (((a0 >>> (((4 : Int32) - ((a1 - (4 : Int32)) / (2 : Int32))) &&& 31)) &&& (1 : Int32)), σ)
    ) else (
      some (((1 : Int32) - ((a0 >>> (((4 : Int32) - ((a1 - (4 : Int32)) / (2 : Int32))) &&& 31)) &&& (1 : Int32))), σ)
    )
  ) else (
    some ((((14 : Int32) >>> (((3 : Int32) - a1) &&& 31)) &&& (1 : Int32)), σ)
  )
def rmX6_bitToSend : Room := { frames := 1, cells := 0, slots := 0, locals := 23 }
def m_X6_bitToSend (a0 : Option Nat) (σ : SG) : Option (Int32 × SG) :=
  (sGetI a0 6 8 σ).bind fun x1 =>
  if (14 : Int32) ≤ x1 then (
    some ((0 : Int32), σ)
  ) else (
    (sGetR a0 6 3 σ).bind fun x3 =>
    (sAld x3 1 (0 : Int32) σ).bind fun x4 =>
    (sGetI a0 6 8 σ).bind fun x5 =>
    bnd (m_X8_frameBit x4 x5 σ) fun r6 σ7 =>
    some (r6, σ7)
  )
def rmX3_spreadOne : Room := { frames := 1, cells := 0, slots := 0, locals := 24 }
def m_X3_spreadOne_b35 (rec2 : Option Nat → Int32 → Int32 → Int32 → SG → Option (Unit × SG)) (v0 : Option Nat) (v1 : Int32) (v2 : Int32) (v3 : Int32) (σ : SG) : Option (Unit × SG) :=
  rec2 v0 v1 v2 ((v3 + 1)) σ
def m_X3_spreadOne_B2 (rec2 : Option Nat → Int32 → Int32 → Int32 → SG → Option (Unit × SG)) (v0 : Option Nat) (v1 : Int32) (v2 : Int32) (v3 : Int32) (σ : SG) : Option (Unit × SG) :=
  (sGetR v0 3 7 σ).bind fun x1 =>
  (sLen x1 σ).bind fun x2 =>
  if x2 ≤ v3 then (
    some ((), σ)
  ) else (
    (sObj v0 3 σ).bind fun _ =>
    bnd (m_X3_lossBetween v0 v1 v3 σ) fun r4 σ5 =>
    (sGetR v0 3 4 σ5).bind fun x6 =>
    (sAld x6 1 (2 : Int32) σ5).bind fun x7 =>
    if (v2 - r4) < x7 then (
      m_X3_spreadOne_b35 rec2 v0 v1 v2 v3 σ5
    ) else (
      (sGetR v0 3 7 σ5).bind fun x9 =>
      (sAst x9 2 v3 (vp_nar .boolean (1 : Int32)) σ5).bind fun σ10 =>
      m_X3_spreadOne_b35 rec2 v0 v1 v2 v3 σ10
    )
  )
def m_X3_spreadOne_L2 (n : Nat) : Option Nat → Int32 → Int32 → Int32 → SG → Option (Unit × SG) := itF (fun _ _ _ _ _ => none) (m_X3_spreadOne_B2 ) n
def m_X3_spreadOne (a0 : Option Nat) (a1 : Int32) (a2 : Int32) (σ : SG) : Option (Unit × SG) :=
  m_X3_spreadOne_L2 1000 a0 a1 a2 ((0 : Int32)) σ
def rmX3_carryBits : Room := { frames := 2, cells := 0, slots := 0, locals := 47 }
def m_X3_carryBits_b127 (rec91 : Option Nat → Option Nat → Int32 → Int32 → SG → Option (Unit × SG)) (v0 : Option Nat) (v1 : Option Nat) (v2 : Int32) (v3 : Int32) (σ : SG) : Option (Unit × SG) :=
  rec91 v0 v1 v2 ((v3 + 1)) σ
def m_X3_carryBits_B91 (rec91 : Option Nat → Option Nat → Int32 → Int32 → SG → Option (Unit × SG)) (v0 : Option Nat) (v1 : Option Nat) (v2 : Int32) (v3 : Int32) (σ : SG) : Option (Unit × SG) :=
  if v2 ≤ v3 then (
    some ((), σ)
  ) else (
    (sAldR v1 v3 σ).bind fun x2 =>
    (sGetI v0 3 6 σ).bind fun x3 =>
    (sObj x2 2 σ).bind fun _ =>
    bnd (m_X2_makesNoiseAt x2 x3 σ) fun r4 σ5 =>
    if r4 = 0 then (
      m_X3_carryBits_b127 rec91 v0 v1 v2 v3 σ5
    ) else (
      (sGetI x2 2 2 σ5).bind fun x7 =>
      (sGetI x2 2 3 σ5).bind fun x8 =>
      (sObj v0 3 σ5).bind fun _ =>
      bnd (m_X3_spreadOne v0 x7 x8 σ5) fun _ σ9 =>
      m_X3_carryBits_b127 rec91 v0 v1 v2 v3 σ9
    )
  )
def m_X3_carryBits_L91 (n : Nat) : Option Nat → Option Nat → Int32 → Int32 → SG → Option (Unit × SG) := itF (fun _ _ _ _ _ => none) (m_X3_carryBits_B91 ) n
def m_X3_carryBits_b75 (rec34 : Option Nat → Option Nat → Int32 → Int32 → SG → Option (Unit × SG)) (v0 : Option Nat) (v1 : Option Nat) (v2 : Int32) (v3 : Int32) (σ : SG) : Option (Unit × SG) :=
  rec34 v0 v1 v2 ((v3 + 1)) σ
def m_X3_carryBits_B34 (rec34 : Option Nat → Option Nat → Int32 → Int32 → SG → Option (Unit × SG)) (v0 : Option Nat) (v1 : Option Nat) (v2 : Int32) (v3 : Int32) (σ : SG) : Option (Unit × SG) :=
  if v2 ≤ v3 then (
    (sGetR v0 3 1 σ).bind fun x11 =>
    (sLen x11 σ).bind fun x12 =>
    m_X3_carryBits_L91 1000 v0 x11 x12 ((0 : Int32)) σ
  ) else (
    (sAldR v1 v3 σ).bind fun x13 =>
    (sObj x13 6 σ).bind fun _ =>
    bnd (m_X6_isSpeaking x13 σ) fun r14 σ15 =>
    if r14 = 0 then (
      m_X3_carryBits_b75 rec34 v0 v1 v2 v3 σ15
    ) else (
      (sObj x13 6 σ15).bind fun _ =>
      bnd (m_X6_bitToSend x13 σ15) fun r17 σ18 =>
      if r17 = (1 : Int32) then (
        (sGetI x13 6 2 σ18).bind fun x20 =>
        (sGetI x13 6 5 σ18).bind fun x21 =>
        (sObj v0 3 σ18).bind fun _ =>
        bnd (m_X3_spreadOne v0 x20 x21 σ18) fun _ σ22 =>
        m_X3_carryBits_b75 rec34 v0 v1 v2 v3 σ22
      ) else (
        m_X3_carryBits_b75 rec34 v0 v1 v2 v3 σ18
      )
    )
  )
def m_X3_carryBits_L34 (n : Nat) : Option Nat → Option Nat → Int32 → Int32 → SG → Option (Unit × SG) := itF (fun _ _ _ _ _ => none) (m_X3_carryBits_B34 ) n
def m_X3_carryBits_B2 (rec2 : Option Nat → Int32 → SG → Option (Unit × SG)) (v0 : Option Nat) (v1 : Int32) (σ : SG) : Option (Unit × SG) :=
  (sGetR v0 3 7 σ).bind fun x23 =>
  (sLen x23 σ).bind fun x24 =>
  if x24 ≤ v1 then (
    (sGetR v0 3 0 σ).bind fun x26 =>
    (sLen x26 σ).bind fun x27 =>
    m_X3_carryBits_L34 1000 v0 x26 x27 ((0 : Int32)) σ
  ) else (
    (sGetR v0 3 7 σ).bind fun x28 =>
    (sAst x28 2 v1 (vp_nar .boolean (0 : Int32)) σ).bind fun σ29 =>
    rec2 v0 ((v1 + 1)) σ29
  )
def m_X3_carryBits_L2 (n : Nat) : Option Nat → Int32 → SG → Option (Unit × SG) := itF (fun _ _ _ => none) (m_X3_carryBits_B2 ) n
def m_X3_carryBits (a0 : Option Nat) (σ : SG) : Option (Unit × SG) :=
  m_X3_carryBits_L2 1000 a0 ((0 : Int32)) σ
def rmX3_isHeardOn : Room := { frames := 0, cells := 0, slots := 0, locals := 0 }
def m_X3_isHeardOn (a0 : Option Nat) (a1 : Int32) (σ : SG) : Option (Int32 × SG) :=
  if a1 < 0 then (
    chkZ (0 : Int32) σ
  ) else (
    (sGetR a0 3 7 σ).bind fun x2 =>
    (sLen x2 σ).bind fun x3 =>
    if x3 ≤ a1 then (
      chkZ (0 : Int32) σ
    ) else (
      (sGetR a0 3 7 σ).bind fun x5 =>
      (sAld x5 2 a1 σ).bind fun x6 =>
      if x6 = 0 then (
        chkZ (0 : Int32) σ
      ) else (
        chkZ (1 : Int32) σ
      )
    )
  )
def rmX6_isDisturbedBy : Room := { frames := 2, cells := 0, slots := 0, locals := 43 }
def m_X6_isDisturbedBy (a0 : Option Nat) (a1 : Int32) (σ : SG) : Option (Int32 × SG) :=
  if a1 = 0 then (
    chkZ (0 : Int32) σ
  ) else (
    (sGetI a0 6 8 σ).bind fun x2 =>
    if (14 : Int32) ≤ x2 then (
      chkZ (0 : Int32) σ
    ) else (
      (sObj a0 6 σ).bind fun _ =>
      bnd (m_X6_bitToSend a0 σ) fun r4 σ5 =>
      if r4 = 0 then (
        chkZ (1 : Int32) σ5
      ) else (
        chkZ (0 : Int32) σ5
      )
    )
  )
def rmX6_giveWay : Room := { frames := 0, cells := 0, slots := 0, locals := 0 }
def m_X6_giveWay (a0 : Option Nat) (σ : SG) : Option (Unit × SG) :=
  (sPutZ a0 6 6 (0 : Int32) σ).bind fun σ1 =>
  (sGetI a0 6 0 σ1).bind fun x2 =>
  (sPutI a0 6 9 ((3 : Int32) + ((2 : Int32) * x2)) σ1).bind fun σ3 =>
  some ((), σ3)
def rmX6_dropFirstWord : Room := { frames := 0, cells := 0, slots := 0, locals := 0 }
def m_X6_dropFirstWord_B2 (rec2 : Option Nat → Int32 → SG → Option (Unit × SG)) (v0 : Option Nat) (v1 : Int32) (σ : SG) : Option (Unit × SG) :=
  (sGetR v0 6 3 σ).bind fun x1 =>
  (sLen x1 σ).bind fun x2 =>
  if x2 ≤ v1 then (
    (sGetI v0 6 4 σ).bind fun x4 =>
    (sPutI v0 6 4 (x4 - (1 : Int32)) σ).bind fun σ5 =>
    some ((), σ5)
  ) else (
    (sGetR v0 6 3 σ).bind fun x6 =>
    (sGetR v0 6 3 σ).bind fun x7 =>
    (sAld x7 1 v1 σ).bind fun x8 =>
    (sAst x6 1 (v1 - (1 : Int32)) x8 σ).bind fun σ9 =>
    rec2 v0 ((v1 + 1)) σ9
  )
def m_X6_dropFirstWord_L2 (n : Nat) : Option Nat → Int32 → SG → Option (Unit × SG) := itF (fun _ _ _ => none) (m_X6_dropFirstWord_B2 ) n
def m_X6_dropFirstWord (a0 : Option Nat) (σ : SG) : Option (Unit × SG) :=
  m_X6_dropFirstWord_L2 1000 a0 ((1 : Int32)) σ
def rmX6_goOn : Room := { frames := 1, cells := 0, slots := 0, locals := 21 }
def m_X6_goOn (a0 : Option Nat) (a1 : Int32) (σ : SG) : Option (Int32 × SG) :=
  (sGetI a0 6 8 σ).bind fun x1 =>
  (sPutI a0 6 8 (x1 + (1 : Int32)) σ).bind fun σ2 =>
  (sGetI a0 6 8 σ2).bind fun x3 =>
  if (16 : Int32) < x3 then (
    (sPutI a0 6 8 (0 : Int32) σ2).bind fun σ5 =>
    (sGetI a0 6 7 σ5).bind fun x6 =>
    (sPutI a0 6 7 (x6 + (1 : Int32)) σ5).bind fun σ7 =>
    (sGetI a0 6 7 σ7).bind fun x8 =>
    if a1 ≤ x8 then (
      (sPutZ a0 6 6 (0 : Int32) σ7).bind fun σ10 =>
      (sObj a0 6 σ10).bind fun _ =>
      bnd (m_X6_dropFirstWord a0 σ10) fun _ σ11 =>
      chkZ (1 : Int32) σ11
    ) else (
      chkZ (0 : Int32) σ7
    )
  ) else (
    chkZ (0 : Int32) σ2
  )
def rmX3_moveSenders : Room := { frames := 3, cells := 0, slots := 0, locals := 64 }
def m_X3_moveSenders_b90 (rec10 : Option Nat → Option Nat → Int32 → Int32 → SG → Option (Unit × SG)) (v0 : Option Nat) (v1 : Option Nat) (v2 : Int32) (v3 : Int32) (σ : SG) : Option (Unit × SG) :=
  rec10 v0 v1 v2 ((v3 + 1)) σ
def m_X3_moveSenders_B10 (rec10 : Option Nat → Option Nat → Int32 → Int32 → SG → Option (Unit × SG)) (v0 : Option Nat) (v1 : Option Nat) (v2 : Int32) (v3 : Int32) (σ : SG) : Option (Unit × SG) :=
  if v2 ≤ v3 then (
    some ((), σ)
  ) else (
    (sAldR v1 v3 σ).bind fun x2 =>
    (sObj x2 6 σ).bind fun _ =>
    bnd (m_X6_isSpeaking x2 σ) fun r3 σ4 =>
    if r3 = 0 then (
      m_X3_moveSenders_b90 rec10 v0 v1 v2 v3 σ4
    ) else (
      (sGetI x2 6 2 σ4).bind fun x6 =>
      (sObj v0 3 σ4).bind fun _ =>
      bnd (m_X3_isHeardOn v0 x6 σ4) fun r7 σ8 =>
      (sObj x2 6 σ8).bind fun _ =>
      bnd (m_X6_isDisturbedBy x2 r7 σ8) fun r9 σ10 =>
      if r9 = 0 then (
        (sGetR v0 3 4 σ10).bind fun x12 =>
        (sAld x12 1 (3 : Int32) σ10).bind fun x13 =>
        (sObj x2 6 σ10).bind fun _ =>
        bnd (m_X6_goOn x2 x13 σ10) fun r14 σ15 =>
        if r14 = 0 then (
          m_X3_moveSenders_b90 rec10 v0 v1 v2 v3 σ15
        ) else (
          (sGetR v0 3 5 σ15).bind fun x17 =>
          (sAld x17 1 (0 : Int32) σ15).bind fun x18 =>
          (sAst x17 1 (0 : Int32) (x18 + (1 : Int32)) σ15).bind fun σ19 =>
          m_X3_moveSenders_b90 rec10 v0 v1 v2 v3 σ19
        )
      ) else (
        (sObj x2 6 σ10).bind fun _ =>
        bnd (m_X6_giveWay x2 σ10) fun _ σ20 =>
        (sGetR v0 3 5 σ20).bind fun x21 =>
        (sAld x21 1 (1 : Int32) σ20).bind fun x22 =>
        (sAst x21 1 (1 : Int32) (x22 + (1 : Int32)) σ20).bind fun σ23 =>
        m_X3_moveSenders_b90 rec10 v0 v1 v2 v3 σ23
      )
    )
  )
def m_X3_moveSenders_L10 (n : Nat) : Option Nat → Option Nat → Int32 → Int32 → SG → Option (Unit × SG) := itF (fun _ _ _ _ _ => none) (m_X3_moveSenders_B10 ) n
def m_X3_moveSenders (a0 : Option Nat) (σ : SG) : Option (Unit × SG) :=
  (sGetR a0 3 0 σ).bind fun x24 =>
  (sLen x24 σ).bind fun x25 =>
  m_X3_moveSenders_L10 1000 a0 x24 x25 ((0 : Int32)) σ
def rmX4_listenAnew : Room := { frames := 0, cells := 0, slots := 0, locals := 0 }
def m_X4_listenAnew (a0 : Option Nat) (σ : SG) : Option (Unit × SG) :=
  (sPutZ a0 4 0 (0 : Int32) σ).bind fun σ1 =>
  (sPutI a0 4 1 (0 : Int32) σ1).bind fun σ2 =>
  some ((), σ2)
def rmX4_read : Room := { frames := 1, cells := 0, slots := 0, locals := 20 }
def m_X4_read (a0 : Option Nat) (a1 : Int32) (σ : SG) : Option (Int32 × SG) :=
  (sGetI a0 4 2 σ).bind fun x1 =>
  (sPutI a0 4 2 (x1 + (1 : Int32)) σ).bind fun σ2 =>
  (sGetI a0 4 2 σ2).bind fun x3 =>
  if (2 : Int32) = 0 then none else
  if (x3 - x3 / (2 : Int32) * (2 : Int32)) = 0 then (
    (sGetI a0 4 3 σ2).bind fun x5 =>
    if (x5 &&& (1 : Int32)) = a1 then (
      (sObj a0 4 σ2).bind fun _ =>
      bnd (m_X4_listenAnew a0 σ2) fun _ σ7 =>
      some ((-2 : Int32), σ7)
    ) else (
      (sGetI a0 4 2 σ2).bind fun x8 =>
      if (10 : Int32) ≤ x8 then (
        (sObj a0 4 σ2).bind fun _ =>
        bnd (m_X4_listenAnew a0 σ2) fun _ σ10 =>
        (sGetI a0 4 3 σ10).bind fun x11 =>
        some (x11, σ10)
      ) else (
        some ((-1 : Int32), σ2)
      )
    )
  ) else (
    (sGetI a0 4 3 σ2).bind fun x12 =>
    (sPutI a0 4 3 ((x12 <<< ((1 : Int32) &&& 31)) ||| a1) σ2).bind fun σ13 =>
    some ((-1 : Int32), σ13)
  )
def rmX4_listen : Room := { frames := 0, cells := 0, slots := 0, locals := 0 }
def m_X4_listen (a0 : Option Nat) (a1 : Int32) (σ : SG) : Option (Int32 × SG) :=
  (sGetI a0 4 1 σ).bind fun x1 =>
  (sPutI a0 4 1 (((x1 <<< ((1 : Int32) &&& 31)) ||| a1) &&& (15 : Int32)) σ).bind fun σ2 =>
  (sGetI a0 4 1 σ2).bind fun x3 =>
  if x3 = (14 : Int32) then (
    (sPutZ a0 4 0 (1 : Int32) σ2).bind fun σ5 =>
    (sPutI a0 4 2 (0 : Int32) σ5).bind fun σ6 =>
    (sPutI a0 4 3 (0 : Int32) σ6).bind fun σ7 =>
    some ((-1 : Int32), σ7)
  ) else (
    some ((-1 : Int32), σ2)
  )
def rmX4_take : Room := { frames := 2, cells := 0, slots := 0, locals := 41 }
def m_X4_take (a0 : Option Nat) (a1 : Int32) (σ : SG) : Option (Int32 × SG) :=
  (sGetI a0 4 0 σ).bind fun x1 =>
  if x1 = 0 then (
    (sObj a0 4 σ).bind fun _ =>
    bnd (m_X4_listen a0 a1 σ) fun r3 σ4 =>
    some (r3, σ4)
  ) else (
    (sObj a0 4 σ).bind fun _ =>
    bnd (m_X4_read a0 a1 σ) fun r5 σ6 =>
    some (r5, σ6)
  )
def rmX4_tell : Room := { frames := 0, cells := 0, slots := 0, locals := 0 }
def m_X4_tell_b24 (v0 : Option Nat) (v1 : Int32) (v2 : Int32) (s0 : Int32) (σ : SG) : Option (Int32 × SG) :=
  (sPutI v0 4 4 v1 σ).bind fun σ1 =>
  (sPutI v0 4 5 v2 σ1).bind fun σ2 =>
  if s0 = 0 then (
    chkZ (1 : Int32) σ2
  ) else (
    chkZ (0 : Int32) σ2
  )
def m_X4_tell_b23 (v0 : Option Nat) (v1 : Int32) (v2 : Int32) (σ : SG) : Option (Int32 × SG) :=
  m_X4_tell_b24 v0 v1 v2 ((0 : Int32)) σ
def m_X4_tell (a0 : Option Nat) (a1 : Int32) (a2 : Int32) (σ : SG) : Option (Int32 × SG) :=
  (sGetI a0 4 4 σ).bind fun x4 =>
  if a1 = x4 then (
    (sGetI a0 4 5 σ).bind fun x6 =>
    if (17 : Int32) < (a2 - x6) then (
      m_X4_tell_b23 a0 a1 a2 σ
    ) else (
      m_X4_tell_b24 a0 a1 a2 ((1 : Int32)) σ
    )
  ) else (
    m_X4_tell_b23 a0 a1 a2 σ
  )
def rmX4_isOpen : Room := { frames := 0, cells := 0, slots := 0, locals := 0 }
def m_X4_isOpen (a0 : Option Nat) (a1 : Int32) (σ : SG) : Option (Int32 × SG) :=
  (sGetI a0 4 6 σ).bind fun x1 =>
  if ((x1 >>> (a1 &&& 31)) &&& (1 : Int32)) = (1 : Int32) then (
    chkZ (1 : Int32) σ
  ) else (
    chkZ (0 : Int32) σ
  )
def rmX4_setOpen : Room := { frames := 0, cells := 0, slots := 0, locals := 0 }
def m_X4_setOpen_b26 (s0 : Option Nat) (s1 : Int32) (σ : SG) : Option (Unit × SG) :=
  (sPutI s0 4 6 s1 σ).bind fun σ1 =>
  some ((), σ1)
def m_X4_setOpen (a0 : Option Nat) (a1 : Int32) (a2 : Int32) (σ : SG) : Option (Unit × SG) :=
  if a2 = 0 then (
    (sGetI a0 4 6 σ).bind fun x3 =>
    m_X4_setOpen_b26 a0 ((x3 &&& (((1 : Int32) <<< (a1 &&& 31)) ^^^ (-1 : Int32)))) σ
  ) else (
    (sGetI a0 4 6 σ).bind fun x4 =>
    m_X4_setOpen_b26 a0 ((x4 ||| ((1 : Int32) <<< (a1 &&& 31)))) σ
  )
def rmX3_hearWord : Room := { frames := 2, cells := 0, slots := 0, locals := 43 }
def m_X3_hearWord_b118 (s0 : Option Nat) (s1 : Int32) (s2 : Int32) (σ : SG) : Option (Int32 × SG) :=
  (sObj s0 4 σ).bind fun _ =>
  bnd (m_X4_setOpen s0 s1 s2 σ) fun _ σ1 =>
  some ((1 : Int32), σ1)
def m_X3_hearWord_b98 (rec60 : Int32 → Option Nat → Int32 → Int32 → Option Nat → Int32 → Int32 → SG → Option (Int32 × SG)) (v1 : Int32) (v2 : Option Nat) (v4 : Int32) (v5 : Int32) (v6 : Option Nat) (v7 : Int32) (v8 : Int32) (σ : SG) : Option (Int32 × SG) :=
  rec60 v1 v2 v4 v5 v6 v7 ((v8 + 1)) σ
def m_X3_hearWord_B60 (rec60 : Int32 → Option Nat → Int32 → Int32 → Option Nat → Int32 → Int32 → SG → Option (Int32 × SG)) (v1 : Int32) (v2 : Option Nat) (v4 : Int32) (v5 : Int32) (v6 : Option Nat) (v7 : Int32) (v8 : Int32) (σ : SG) : Option (Int32 × SG) :=
  if v7 ≤ v8 then (
    if (4 : Int32) ≤ v5 then (
      m_X3_hearWord_b118 v2 v4 ((0 : Int32)) σ
    ) else (
      m_X3_hearWord_b118 v2 v4 ((1 : Int32)) σ
    )
  ) else (
    (sAldR v6 v8 σ).bind fun x4 =>
    (sObj x4 1 σ).bind fun _ =>
    bnd (m_X1_isCalledBy x4 v1 v4 σ) fun r5 σ6 =>
    if r5 = 0 then (
      m_X3_hearWord_b98 rec60 v1 v2 v4 v5 v6 v7 v8 σ6
    ) else (
      (sObj v2 4 σ6).bind fun _ =>
      bnd (m_X4_isOpen v2 v4 σ6) fun r8 σ9 =>
      (sObj x4 1 σ9).bind fun _ =>
      bnd (m_X1_obey x4 v5 r8 σ9) fun _ σ10 =>
      m_X3_hearWord_b98 rec60 v1 v2 v4 v5 v6 v7 v8 σ10
    )
  )
def m_X3_hearWord_L60 (n : Nat) : Int32 → Option Nat → Int32 → Int32 → Option Nat → Int32 → Int32 → SG → Option (Int32 × SG) := itF (fun _ _ _ _ _ _ _ _ => none) (m_X3_hearWord_B60 ) n
def m_X3_hearWord (a0 : Option Nat) (a1 : Int32) (a2 : Option Nat) (a3 : Int32) (σ : SG) : Option (Int32 × SG) :=
  (sGetI a0 3 6 σ).bind fun x11 =>
  (sObj a2 4 σ).bind fun _ =>
  bnd (m_X4_tell a2 a3 x11 σ) fun r12 σ13 =>
  if r12 = 0 then (
    (sGetR a0 3 5 σ13).bind fun x15 =>
    (sAld x15 1 (3 : Int32) σ13).bind fun x16 =>
    (sAst x15 1 (3 : Int32) (x16 + (1 : Int32)) σ13).bind fun σ17 =>
    some ((0 : Int32), σ17)
  ) else (
    (sGetR a0 3 5 σ13).bind fun x18 =>
    (sAld x18 1 (2 : Int32) σ13).bind fun x19 =>
    (sAst x18 1 (2 : Int32) (x19 + (1 : Int32)) σ13).bind fun σ20 =>
    if (8 : Int32) = 0 then none else
    if (8 : Int32) = 0 then none else
    (sGetR a0 3 2 σ20).bind fun x21 =>
    (sLen x21 σ20).bind fun x22 =>
    m_X3_hearWord_L60 1000 a1 a2 ((a3 / (8 : Int32))) ((a3 - a3 / (8 : Int32) * (8 : Int32))) x21 x22 ((0 : Int32)) σ20
  )
def rmX3_takeBits : Room := { frames := 3, cells := 0, slots := 0, locals := 72 }
def m_X3_takeBits_b70 (rec4 : Option Nat → Int32 → Int32 → SG → Option (Int32 × SG)) (v0 : Option Nat) (v1 : Int32) (v2 : Int32) (σ : SG) : Option (Int32 × SG) :=
  rec4 v0 v1 ((v2 + 1)) σ
def m_X3_takeBits_B4 (rec4 : Option Nat → Int32 → Int32 → SG → Option (Int32 × SG)) (v0 : Option Nat) (v1 : Int32) (v2 : Int32) (σ : SG) : Option (Int32 × SG) :=
  (sGetR v0 3 3 σ).bind fun x1 =>
  (sLen x1 σ).bind fun x2 =>
  if x2 ≤ v2 then (
    some (v1, σ)
  ) else (
    (sGetR v0 3 3 σ).bind fun x4 =>
    (sAldR x4 v2 σ).bind fun x5 =>
    (sObj v0 3 σ).bind fun _ =>
    bnd (m_X3_isHeardOn v0 v2 σ) fun r6 σ7 =>
    bnd (m_X8_asNumber r6 σ7) fun r8 σ9 =>
    (sObj x5 4 σ9).bind fun _ =>
    bnd (m_X4_take x5 r8 σ9) fun r10 σ11 =>
    if r10 = (-2 : Int32) then (
      (sGetR v0 3 5 σ11).bind fun x13 =>
      (sAld x13 1 (4 : Int32) σ11).bind fun x14 =>
      (sAst x13 1 (4 : Int32) (x14 + (1 : Int32)) σ11).bind fun σ15 =>
      m_X3_takeBits_b70 rec4 v0 v1 v2 σ15
    ) else (
      if r10 = (-1 : Int32) then (
        m_X3_takeBits_b70 rec4 v0 v1 v2 σ11
      ) else (
        (sGetR v0 3 3 σ11).bind fun x17 =>
        (sAldR x17 v2 σ11).bind fun x18 =>
        (sObj v0 3 σ11).bind fun _ =>
        bnd (m_X3_hearWord v0 v2 x18 r10 σ11) fun r19 σ20 =>
        m_X3_takeBits_b70 rec4 v0 ((v1 + r19)) v2 σ20
      )
    )
  )
def m_X3_takeBits_L4 (n : Nat) : Option Nat → Int32 → Int32 → SG → Option (Int32 × SG) := itF (fun _ _ _ _ => none) (m_X3_takeBits_B4 ) n
def m_X3_takeBits (a0 : Option Nat) (σ : SG) : Option (Int32 × SG) :=
  m_X3_takeBits_L4 1000 a0 ((0 : Int32)) ((0 : Int32)) σ
def rmX3_beat : Room := { frames := 4, cells := 0, slots := 0, locals := 95 }
def m_X3_beat (a0 : Option Nat) (σ : SG) : Option (Int32 × SG) :=
  (sObj a0 3 σ).bind fun _ =>
  bnd (m_X3_beginSpeaking a0 σ) fun _ σ1 =>
  (sObj a0 3 σ1).bind fun _ =>
  bnd (m_X3_carryBits a0 σ1) fun _ σ2 =>
  (sObj a0 3 σ2).bind fun _ =>
  bnd (m_X3_moveSenders a0 σ2) fun _ σ3 =>
  (sObj a0 3 σ3).bind fun _ =>
  bnd (m_X3_takeBits a0 σ3) fun r4 σ5 =>
  (sGetI a0 3 6 σ5).bind fun x6 =>
  (sPutI a0 3 6 (x6 + (1 : Int32)) σ5).bind fun σ7 =>
  some (r4, σ7)
def rmX3_letPass : Room := { frames := 5, cells := 0, slots := 0, locals := 116 }
def m_X3_letPass_B4 (rec4 : Option Nat → Int32 → Int32 → Int32 → SG → Option (Int32 × SG)) (v0 : Option Nat) (v1 : Int32) (v2 : Int32) (v3 : Int32) (σ : SG) : Option (Int32 × SG) :=
  if v1 ≤ v3 then (
    some (v2, σ)
  ) else (
    (sObj v0 3 σ).bind fun _ =>
    bnd (m_X3_beat v0 σ) fun r2 σ3 =>
    rec4 v0 v1 ((v2 + r2)) ((v3 + 1)) σ3
  )
def m_X3_letPass_L4 (n : Nat) : Option Nat → Int32 → Int32 → Int32 → SG → Option (Int32 × SG) := itF (fun _ _ _ _ _ => none) (m_X3_letPass_B4 ) n
def m_X3_letPass (a0 : Option Nat) (a1 : Int32) (σ : SG) : Option (Int32 × SG) :=
  m_X3_letPass_L4 1000 a0 a1 ((0 : Int32)) ((0 : Int32)) σ
def rmX5_init : Room := { frames := 1, cells := 1, slots := 800, locals := 12 }
def m_X5_init_e (lim : Nat) (a0 : Option Nat) (σ : SG) : Option (Unit × SG) :=
  (sNN a0).bind fun _ =>
  bnd (sNewA lim 1 (80 : Int32) σ) fun x1 σ2 =>
  (sPutR a0 5 0 x1 σ2).bind fun σ4 =>
  (sPutI a0 5 1 (0 : Int32) σ4).bind fun σ5 =>
  sEnd lim σ5
def m_X5_init (a0 : Option Nat) (σ : SG) : Option (Unit × SG) := m_X5_init_e (σ.2 + 1) a0 σ
def rmX5_isFull : Room := { frames := 0, cells := 0, slots := 0, locals := 0 }
def m_X5_isFull (a0 : Option Nat) (σ : SG) : Option (Int32 × SG) :=
  (sGetI a0 5 1 σ).bind fun x1 =>
  (sGetR a0 5 0 σ).bind fun x2 =>
  (sLen x2 σ).bind fun x3 =>
  if x1 < x3 then (
    chkZ (0 : Int32) σ
  ) else (
    chkZ (1 : Int32) σ
  )
def rmX5_add : Room := { frames := 0, cells := 0, slots := 0, locals := 0 }
def m_X5_add (a0 : Option Nat) (a1 : Int32) (σ : SG) : Option (Unit × SG) :=
  (sGetI a0 5 1 σ).bind fun x1 =>
  if x1 < 0 then (
    some ((), σ)
  ) else (
    (sGetI a0 5 1 σ).bind fun x3 =>
    (sGetR a0 5 0 σ).bind fun x4 =>
    (sLen x4 σ).bind fun x5 =>
    if x5 ≤ x3 then (
      some ((), σ)
    ) else (
      (sGetR a0 5 0 σ).bind fun x7 =>
      (sGetI a0 5 1 σ).bind fun x8 =>
      (sAst x7 1 x8 a1 σ).bind fun σ9 =>
      (sGetI a0 5 1 σ9).bind fun x10 =>
      (sPutI a0 5 1 (x10 + (1 : Int32)) σ9).bind fun σ11 =>
      some ((), σ11)
    )
  )
def rmX5_signAt : Room := { frames := 0, cells := 0, slots := 0, locals := 0 }
def m_X5_signAt (a0 : Option Nat) (a1 : Int32) (σ : SG) : Option (Int32 × SG) :=
  if a1 < 0 then (
    some ((0 : Int32), σ)
  ) else (
    (sGetI a0 5 1 σ).bind fun x2 =>
    if x2 ≤ a1 then (
      some ((0 : Int32), σ)
    ) else (
      (sGetR a0 5 0 σ).bind fun x4 =>
      (sLen x4 σ).bind fun x5 =>
      if x5 ≤ a1 then (
        some ((0 : Int32), σ)
      ) else (
        (sGetR a0 5 0 σ).bind fun x7 =>
        (sAld x7 1 a1 σ).bind fun x8 =>
        some (x8, σ)
      )
    )
  )
def rmX5_isDigit : Room := { frames := 0, cells := 0, slots := 0, locals := 0 }
def m_X5_isDigit (a0 : Int32) (σ : SG) : Option (Int32 × SG) :=
  if a0 < (48 : Int32) then (
    chkZ (0 : Int32) σ
  ) else (
    if (57 : Int32) < a0 then (
      chkZ (0 : Int32) σ
    ) else (
      chkZ (1 : Int32) σ
    )
  )
def rmX5_isSenderDigit : Room := { frames := 1, cells := 0, slots := 0, locals := 20 }
def m_X5_isSenderDigit (a0 : Int32) (σ : SG) : Option (Int32 × SG) :=
  bnd (m_X5_isDigit a0 σ) fun r1 σ2 =>
  if r1 = 0 then (
    chkZ (0 : Int32) σ2
  ) else (
    if (5 : Int32) ≤ (a0 - (48 : Int32)) then (
      chkZ (0 : Int32) σ2
    ) else (
      chkZ (1 : Int32) σ2
    )
  )
def rmX5_isLetter : Room := { frames := 0, cells := 0, slots := 0, locals := 0 }
def m_X5_isLetter (a0 : Int32) (σ : SG) : Option (Int32 × SG) :=
  if a0 < (65 : Int32) then (
    chkZ (0 : Int32) σ
  ) else (
    if (69 : Int32) ≤ a0 then (
      chkZ (0 : Int32) σ
    ) else (
      chkZ (1 : Int32) σ
    )
  )
def rmX5_codeOf : Room := { frames := 0, cells := 0, slots := 0, locals := 0 }
def m_X5_codeOf (a0 : Int32) (σ : SG) : Option (Int32 × SG) :=
  swK a0 [
    (33, (
      some ((7 : Int32), σ)
    )),
    (43, (
      some ((4 : Int32), σ)
    )),
    (45, (
      some ((5 : Int32), σ)
    )),
    (94, (
      some ((6 : Int32), σ)
    ))
  ] (
    if a0 < (48 : Int32) then (
      some ((-1 : Int32), σ)
    ) else (
      if (52 : Int32) ≤ a0 then (
        some ((-1 : Int32), σ)
      ) else (
        some ((a0 - (48 : Int32)), σ)
      )
    )
  )
def rmX5_next : Room := { frames := 2, cells := 0, slots := 0, locals := 40 }
def m_X5_next (a0 : Int32) (a1 : Int32) (σ : SG) : Option (Int32 × SG) :=
  swK a0 [
    (0, (
      if a1 = (116 : Int32) then (
        some ((5 : Int32), σ)
      ) else (
        bnd (m_X5_isSenderDigit a1 σ) fun r2 σ3 =>
        if r2 = 0 then (
          some ((-1 : Int32), σ3)
        ) else (
          some ((1 : Int32), σ3)
        )
      )
    )),
    (1, (
      if a1 = (58 : Int32) then (
        some ((2 : Int32), σ)
      ) else (
        some ((-1 : Int32), σ)
      )
    )),
    (2, (
      bnd (m_X5_isLetter a1 σ) fun r6 σ7 =>
      if r6 = 0 then (
        some ((-1 : Int32), σ7)
      ) else (
        some ((3 : Int32), σ7)
      )
    )),
    (3, (
      bnd (m_X5_codeOf a1 σ) fun r9 σ10 =>
      if r9 = (-1 : Int32) then (
        some ((-1 : Int32), σ10)
      ) else (
        some ((4 : Int32), σ10)
      )
    )),
    (4, (
      if a1 = (44 : Int32) then (
        some ((0 : Int32), σ)
      ) else (
        bnd (m_X5_isLetter a1 σ) fun r13 σ14 =>
        if r13 = 0 then (
          some ((-1 : Int32), σ14)
        ) else (
          some ((3 : Int32), σ14)
        )
      )
    )),
    (5, (
      bnd (m_X5_isDigit a1 σ) fun r16 σ17 =>
      if r16 = 0 then (
        some ((-1 : Int32), σ17)
      ) else (
        if a1 = (48 : Int32) then (
          some ((-1 : Int32), σ17)
        ) else (
          some ((6 : Int32), σ17)
        )
      )
    )),
    (6, (
      if a1 = (44 : Int32) then (
        some ((0 : Int32), σ)
      ) else (
        bnd (m_X5_isDigit a1 σ) fun r21 σ22 =>
        if r21 = 0 then (
          some ((-1 : Int32), σ22)
        ) else (
          some ((7 : Int32), σ22)
        )
      )
    )),
    (7, (
      if a1 = (44 : Int32) then (
        some ((0 : Int32), σ)
      ) else (
        some ((-1 : Int32), σ)
      )
    ))
  ] (
    some ((-1 : Int32), σ)
  )
def rmX5_firstFault : Room := { frames := 3, cells := 0, slots := 0, locals := 61 }
def m_X5_firstFault_b57 (v0 : Option Nat) (s0 : Int32) (σ : SG) : Option (Int32 × SG) :=
  if s0 = 0 then (
    (sGetI v0 5 1 σ).bind fun x2 =>
    some (x2, σ)
  ) else (
    some ((-5 : Int32), σ)
  )
def m_X5_firstFault_b52 (v0 : Option Nat) (σ : SG) : Option (Int32 × SG) :=
  m_X5_firstFault_b57 v0 ((1 : Int32)) σ
def m_X5_firstFault_B4 (rec4 : Option Nat → Int32 → Int32 → SG → Option (Int32 × SG)) (v0 : Option Nat) (v1 : Int32) (v2 : Int32) (σ : SG) : Option (Int32 × SG) :=
  (sGetI v0 5 1 σ).bind fun x3 =>
  if x3 ≤ v2 then (
    if v1 = (4 : Int32) then (
      m_X5_firstFault_b52 v0 σ
    ) else (
      if v1 = (6 : Int32) then (
        m_X5_firstFault_b52 v0 σ
      ) else (
        if v1 = (7 : Int32) then (
          m_X5_firstFault_b52 v0 σ
        ) else (
          m_X5_firstFault_b57 v0 ((0 : Int32)) σ
        )
      )
    )
  ) else (
    (sObj v0 5 σ).bind fun _ =>
    bnd (m_X5_signAt v0 v2 σ) fun r8 σ9 =>
    bnd (m_X5_next v1 r8 σ9) fun r10 σ11 =>
    if r10 = (-1 : Int32) then (
      some (v2, σ11)
    ) else (
      rec4 v0 r10 ((v2 + 1)) σ11
    )
  )
def m_X5_firstFault_L4 (n : Nat) : Option Nat → Int32 → Int32 → SG → Option (Int32 × SG) := itF (fun _ _ _ _ => none) (m_X5_firstFault_B4 ) n
def m_X5_firstFault (a0 : Option Nat) (σ : SG) : Option (Int32 × SG) :=
  m_X5_firstFault_L4 1000 a0 ((0 : Int32)) ((0 : Int32)) σ
def rmX5_wordOf : Room := { frames := 1, cells := 0, slots := 0, locals := 20 }
def m_X5_wordOf (a0 : Int32) (a1 : Int32) (σ : SG) : Option (Int32 × SG) :=
  bnd (m_X5_codeOf a1 σ) fun r1 σ2 =>
  some ((((8 : Int32) * (a0 - (65 : Int32))) + r1), σ2)
def rmX5_beatsBehind : Room := { frames := 1, cells := 0, slots := 0, locals := 21 }
def m_X5_beatsBehind_B4 (rec4 : Option Nat → Int32 → Int32 → Int32 → SG → Option (Int32 × SG)) (v0 : Option Nat) (v1 : Int32) (v2 : Int32) (v3 : Int32) (σ : SG) : Option (Int32 × SG) :=
  if (2 : Int32) < v3 then (
    some (v2, σ)
  ) else (
    (sObj v0 5 σ).bind fun _ =>
    bnd (m_X5_signAt v0 (v1 + v3) σ) fun r2 σ3 =>
    bnd (m_X5_isDigit r2 σ3) fun r4 σ5 =>
    if r4 = 0 then (
      some (v2, σ5)
    ) else (
      (sObj v0 5 σ5).bind fun _ =>
      bnd (m_X5_signAt v0 (v1 + v3) σ5) fun r7 σ8 =>
      rec4 v0 v1 (((((10 : Int32) * v2) + r7) - (48 : Int32))) ((v3 + 1)) σ8
    )
  )
def m_X5_beatsBehind_L4 (n : Nat) : Option Nat → Int32 → Int32 → Int32 → SG → Option (Int32 × SG) := itF (fun _ _ _ _ _ => none) (m_X5_beatsBehind_B4 ) n
def m_X5_beatsBehind (a0 : Option Nat) (a1 : Int32) (σ : SG) : Option (Int32 × SG) :=
  m_X5_beatsBehind_L4 1000 a0 a1 ((0 : Int32)) ((1 : Int32)) σ
def rmX6_put : Room := { frames := 0, cells := 0, slots := 0, locals := 0 }
def m_X6_put (a0 : Option Nat) (a1 : Int32) (a2 : Int32) (σ : SG) : Option (Unit × SG) :=
  (sPutZ a0 6 1 (1 : Int32) σ).bind fun σ1 =>
  (sPutI a0 6 2 a1 σ1).bind fun σ2 =>
  (sPutI a0 6 5 a2 σ2).bind fun σ3 =>
  (sPutI a0 6 4 (0 : Int32) σ3).bind fun σ4 =>
  (sPutZ a0 6 6 (0 : Int32) σ4).bind fun σ5 =>
  (sPutI a0 6 7 (0 : Int32) σ5).bind fun σ6 =>
  (sPutI a0 6 8 (0 : Int32) σ6).bind fun σ7 =>
  (sPutI a0 6 9 (0 : Int32) σ7).bind fun σ8 =>
  some ((), σ8)
def rmX6_wordAt : Room := { frames := 0, cells := 0, slots := 0, locals := 0 }
def m_X6_wordAt (a0 : Option Nat) (a1 : Int32) (σ : SG) : Option (Int32 × SG) :=
  if a1 < 0 then (
    some ((-5 : Int32), σ)
  ) else (
    (sGetI a0 6 4 σ).bind fun x2 =>
    if x2 ≤ a1 then (
      some ((-5 : Int32), σ)
    ) else (
      (sGetR a0 6 3 σ).bind fun x4 =>
      (sLen x4 σ).bind fun x5 =>
      if a1 < x5 then (
        (sGetR a0 6 3 σ).bind fun x7 =>
        (sAld x7 1 a1 σ).bind fun x8 =>
        some (x8, σ)
      ) else (
        some ((-5 : Int32), σ)
      )
    )
  )
def rmX8_init : Room := { frames := 5, cells := 256, slots := 204800, locals := 96 }
def m_X8_init_e (lim : Nat) (a0 : Option Nat) (σ : SG) : Option (Unit × SG) :=
  (sNN a0).bind fun _ =>
  bnd (sNew lim (.inl (3, [.null, .null, .null, .null, .null, .null, .int 0, .null])) σ) fun x1 σ2 =>
  (sRoom lim 35 σ2).bind fun _ =>
  (sObj x1 3 σ2).bind fun _ =>
  bnd (m_X3_init x1 σ2) fun _ σ4 =>
  (sSame σ4.2 (σ2.2 + 35)).bind fun _ =>
  (sPutR a0 7 0 x1 σ4).bind fun σ6 =>
  bnd (sNew lim (.inl (3, [.null, .null, .null, .null, .null, .null, .int 0, .null])) σ6) fun x7 σ8 =>
  (sRoom lim 35 σ8).bind fun _ =>
  (sObj x7 3 σ8).bind fun _ =>
  bnd (m_X3_init x7 σ8) fun _ σ10 =>
  (sSame σ10.2 (σ8.2 + 35)).bind fun _ =>
  (sPutR a0 7 1 x7 σ10).bind fun σ12 =>
  bnd (sNew lim (.inl (3, [.null, .null, .null, .null, .null, .null, .int 0, .null])) σ12) fun x13 σ14 =>
  (sRoom lim 35 σ14).bind fun _ =>
  (sObj x13 3 σ14).bind fun _ =>
  bnd (m_X3_init x13 σ14) fun _ σ16 =>
  (sSame σ16.2 (σ14.2 + 35)).bind fun _ =>
  (sPutR a0 7 2 x13 σ16).bind fun σ18 =>
  (sPutZ a0 7 3 (0 : Int32) σ18).bind fun σ19 =>
  bnd (sNew lim (.inl (0, [.null, .int 0])) σ19) fun x20 σ21 =>
  (sRoom lim 145 σ21).bind fun _ =>
  (sObj x20 0 σ21).bind fun _ =>
  bnd (m_X0_init x20 σ21) fun _ σ23 =>
  (sSame σ23.2 (σ21.2 + 145)).bind fun _ =>
  (sPutR a0 7 4 x20 σ23).bind fun σ25 =>
  bnd (sNew lim (.inl (5, [.null, .int 0])) σ25) fun x26 σ27 =>
  (sRoom lim 1 σ27).bind fun _ =>
  (sObj x26 5 σ27).bind fun _ =>
  bnd (m_X5_init x26 σ27) fun _ σ29 =>
  (sSame σ29.2 (σ27.2 + 1)).bind fun _ =>
  (sPutR a0 7 5 x26 σ29).bind fun σ31 =>
  sEnd lim σ31
def m_X8_init (a0 : Option Nat) (σ : SG) : Option (Unit × SG) := m_X8_init_e (σ.2 + 256) a0 σ
def rmX8_isWire : Room := { frames := 0, cells := 0, slots := 0, locals := 0 }
def m_X8_isWire (a0 : Int32) (σ : SG) : Option (Int32 × SG) :=
  if a0 < 0 then (
    chkZ (0 : Int32) σ
  ) else (
    if (6 : Int32) ≤ a0 then (
      chkZ (0 : Int32) σ
    ) else (
      chkZ (1 : Int32) σ
    )
  )
def rmX8_sender : Room := { frames := 4, cells := 0, slots := 0, locals := 86 }
def m_X8_sender (a0 : Option Nat) (a1 : Int32) (a2 : Int32) (σ : SG) : Option (Int32 × SG) :=
  bnd (m_X8_isWire a1 σ) fun r1 σ2 =>
  if r1 = 0 then (
    some ((-1 : Int32), σ2)
  ) else (
    if a2 < (1 : Int32) then (
      some ((-2 : Int32), σ2)
    ) else (
      if a2 ≤ (9 : Int32) then (
        (sGetR a0 7 0 σ2).bind fun x6 =>
        (sObj x6 3 σ2).bind fun _ =>
        bnd (m_X3_freeSender x6 σ2) fun r7 σ8 =>
        if r7 = none then (
          some ((-3 : Int32), σ8)
        ) else (
          (sGetR a0 7 4 σ8).bind fun x10 =>
          (sGetR a0 7 0 σ8).bind fun x11 =>
          (sObj x10 0 σ8).bind fun _ =>
          bnd (m_X0_keep x10 x11 σ8) fun _ σ12 =>
          (sObj r7 6 σ12).bind fun _ =>
          bnd (m_X6_put r7 a1 a2 σ12) fun _ σ13 =>
          (sGetI r7 6 0 σ13).bind fun x14 =>
          some (x14, σ13)
        )
      ) else (
        some ((-2 : Int32), σ2)
      )
    )
  )
def rmX8_machine : Room := { frames := 4, cells := 0, slots := 0, locals := 86 }
def m_X8_machine (a0 : Option Nat) (a1 : Int32) (a2 : Int32) (a3 : Int32) (σ : SG) : Option (Int32 × SG) :=
  bnd (m_X8_isWire a1 σ) fun r1 σ2 =>
  if r1 = 0 then (
    some ((-1 : Int32), σ2)
  ) else (
    if a2 < (1 : Int32) then (
      some ((-2 : Int32), σ2)
    ) else (
      if a2 ≤ (9 : Int32) then (
        if a3 < (2 : Int32) then (
          some ((-2 : Int32), σ2)
        ) else (
          if a3 ≤ (20 : Int32) then (
            (sGetR a0 7 0 σ2).bind fun x8 =>
            (sObj x8 3 σ2).bind fun _ =>
            bnd (m_X3_freeMachine x8 σ2) fun r9 σ10 =>
            if r9 = none then (
              some ((-3 : Int32), σ10)
            ) else (
              (sGetR a0 7 4 σ10).bind fun x12 =>
              (sGetR a0 7 0 σ10).bind fun x13 =>
              (sObj x12 0 σ10).bind fun _ =>
              bnd (m_X0_keep x12 x13 σ10) fun _ σ14 =>
              (sObj r9 2 σ14).bind fun _ =>
              bnd (m_X2_put r9 a1 a2 a3 σ14) fun _ σ15 =>
              (sGetI r9 2 0 σ15).bind fun x16 =>
              some (x16, σ15)
            )
          ) else (
            some ((-2 : Int32), σ2)
          )
        )
      ) else (
        some ((-2 : Int32), σ2)
      )
    )
  )
def rmX8_lamp : Room := { frames := 4, cells := 0, slots := 0, locals := 86 }
def m_X8_lamp (a0 : Option Nat) (a1 : Int32) (a2 : Int32) (a3 : Int32) (σ : SG) : Option (Int32 × SG) :=
  bnd (m_X8_isWire a1 σ) fun r1 σ2 =>
  if r1 = 0 then (
    some ((-1 : Int32), σ2)
  ) else (
    if a2 < 0 then (
      some ((-2 : Int32), σ2)
    ) else (
      if (4 : Int32) ≤ a2 then (
        some ((-2 : Int32), σ2)
      ) else (
        if a3 < 0 then (
          some ((-2 : Int32), σ2)
        ) else (
          if a3 < (4 : Int32) then (
            (sGetR a0 7 0 σ2).bind fun x8 =>
            (sObj x8 3 σ2).bind fun _ =>
            bnd (m_X3_freeLamp x8 σ2) fun r9 σ10 =>
            if r9 = none then (
              some ((-3 : Int32), σ10)
            ) else (
              (sGetR a0 7 4 σ10).bind fun x12 =>
              (sGetR a0 7 0 σ10).bind fun x13 =>
              (sObj x12 0 σ10).bind fun _ =>
              bnd (m_X0_keep x12 x13 σ10) fun _ σ14 =>
              (sObj r9 1 σ14).bind fun _ =>
              bnd (m_X1_put r9 a1 a2 a3 σ14) fun _ σ15 =>
              (sGetI r9 1 0 σ15).bind fun x16 =>
              some (x16, σ15)
            )
          ) else (
            some ((-2 : Int32), σ2)
          )
        )
      )
    )
  )
def rmX8_remove : Room := { frames := 4, cells := 0, slots := 0, locals := 86 }
def m_X8_remove (a0 : Option Nat) (a1 : Int32) (a2 : Int32) (σ : SG) : Option (Int32 × SG) :=
  (sGetR a0 7 0 σ).bind fun x1 =>
  (sObj x1 3 σ).bind fun _ =>
  bnd (m_X3_thingsOf x1 a1 σ) fun r2 σ3 =>
  if r2 = none then (
    some ((-2 : Int32), σ3)
  ) else (
    bnd (m_X8_presentAt r2 a2 σ3) fun r5 σ6 =>
    if r5 = none then (
      some ((-1 : Int32), σ6)
    ) else (
      (sGetR a0 7 4 σ6).bind fun x8 =>
      (sGetR a0 7 0 σ6).bind fun x9 =>
      (sObj x8 0 σ6).bind fun _ =>
      bnd (m_X0_keep x8 x9 σ6) fun _ σ10 =>
      (sPutZT r5 [1, 2, 6] 1 (0 : Int32) σ10).bind fun σ11 =>
      (sGetIT r5 [1, 2, 6] 2 σ11).bind fun x12 =>
      some (x12, σ11)
    )
  )
def rmX8_say : Room := { frames := 4, cells := 0, slots := 0, locals := 86 }
def m_X8_say (a0 : Option Nat) (a1 : Int32) (a2 : Int32) (σ : SG) : Option (Int32 × SG) :=
  (sGetR a0 7 0 σ).bind fun x1 =>
  (sObj x1 3 σ).bind fun _ =>
  bnd (m_X3_refusalOfWord x1 a1 a2 σ) fun r2 σ3 =>
  if 0 ≤ r2 then (
    (sGetR a0 7 4 σ3).bind fun x5 =>
    (sGetR a0 7 0 σ3).bind fun x6 =>
    (sObj x5 0 σ3).bind fun _ =>
    bnd (m_X0_keep x5 x6 σ3) fun _ σ7 =>
    (sGetR a0 7 0 σ7).bind fun x8 =>
    (sObj x8 3 σ7).bind fun _ =>
    bnd (m_X3_giveWord x8 a1 a2 σ7) fun r9 σ10 =>
    some (r9, σ10)
  ) else (
    some (r2, σ3)
  )
def rmX8_run : Room := { frames := 4, cells := 0, slots := 0, locals := 86 }
def m_X8_run (a0 : Option Nat) (a1 : Int32) (a2 : Int32) (σ : SG) : Option (Int32 × SG) :=
  (sGetR a0 7 0 σ).bind fun x1 =>
  (sObj x1 3 σ).bind fun _ =>
  bnd (m_X3_machineAt x1 a1 σ) fun r2 σ3 =>
  if r2 = none then (
    some ((-1 : Int32), σ3)
  ) else (
    (sGetR a0 7 4 σ3).bind fun x5 =>
    (sGetR a0 7 0 σ3).bind fun x6 =>
    (sObj x5 0 σ3).bind fun _ =>
    bnd (m_X0_keep x5 x6 σ3) fun _ σ7 =>
    (sGetI r2 2 5 σ7).bind fun x8 =>
    bnd (m_X8_asNumber x8 σ7) fun r9 σ10 =>
    (sPutZ r2 2 5 a2 σ10).bind fun σ11 =>
    some (r9, σ11)
  )
def rmX8_set : Room := { frames := 4, cells := 0, slots := 0, locals := 86 }
def m_X8_set (a0 : Option Nat) (a1 : Int32) (a2 : Int32) (σ : SG) : Option (Int32 × SG) :=
  if a1 < 0 then (
    some ((-1 : Int32), σ)
  ) else (
    if a1 < (4 : Int32) then (
      (lstI a1).bind fun x3 =>
      if a2 < x3 then (
        some ((-2 : Int32), σ)
      ) else (
        (mstI a1).bind fun x5 =>
        if a2 ≤ x5 then (
          (sGetR a0 7 4 σ).bind fun x7 =>
          (sGetR a0 7 0 σ).bind fun x8 =>
          (sObj x7 0 σ).bind fun _ =>
          bnd (m_X0_keep x7 x8 σ) fun _ σ9 =>
          (sGetR a0 7 0 σ9).bind fun x10 =>
          (sGetR x10 3 4 σ9).bind fun x11 =>
          (sAld x11 1 a1 σ9).bind fun x12 =>
          (sGetR a0 7 0 σ9).bind fun x13 =>
          (sGetR x13 3 4 σ9).bind fun x14 =>
          (sAst x14 1 a1 a2 σ9).bind fun σ15 =>
          some (x12, σ15)
        ) else (
          some ((-2 : Int32), σ)
        )
      )
    ) else (
      some ((-1 : Int32), σ)
    )
  )
def rmX8_pass : Room := { frames := 6, cells := 0, slots := 0, locals := 139 }
def m_X8_pass (a0 : Option Nat) (a1 : Int32) (σ : SG) : Option (Int32 × SG) :=
  if a1 < (1 : Int32) then (
    some ((-2 : Int32), σ)
  ) else (
    if a1 ≤ (99 : Int32) then (
      (sGetR a0 7 4 σ).bind fun x3 =>
      (sGetR a0 7 0 σ).bind fun x4 =>
      (sObj x3 0 σ).bind fun _ =>
      bnd (m_X0_keep x3 x4 σ) fun _ σ5 =>
      (sGetR a0 7 0 σ5).bind fun x6 =>
      (sObj x6 3 σ5).bind fun _ =>
      bnd (m_X3_letPass x6 a1 σ5) fun r7 σ8 =>
      some (r7, σ8)
    ) else (
      some ((-2 : Int32), σ)
    )
  )
def rmX8_append : Room := { frames := 1, cells := 0, slots := 0, locals := 21 }
def m_X8_append (a0 : Option Nat) (a1 : Int32) (σ : SG) : Option (Int32 × SG) :=
  if a1 < (32 : Int32) then (
    some ((-2 : Int32), σ)
  ) else (
    if a1 ≤ (126 : Int32) then (
      (sGetR a0 7 5 σ).bind fun x3 =>
      (sObj x3 5 σ).bind fun _ =>
      bnd (m_X5_isFull x3 σ) fun r4 σ5 =>
      if r4 = 0 then (
        (sGetR a0 7 5 σ5).bind fun x7 =>
        (sObj x7 5 σ5).bind fun _ =>
        bnd (m_X5_add x7 a1 σ5) fun _ σ8 =>
        (sGetR a0 7 5 σ8).bind fun x9 =>
        (sGetI x9 5 1 σ8).bind fun x10 =>
        some (x10, σ8)
      ) else (
        some ((-3 : Int32), σ5)
      )
    ) else (
      some ((-2 : Int32), σ)
    )
  )
def rmX8_clearText : Room := { frames := 0, cells := 0, slots := 0, locals := 0 }
def m_X8_clearText (a0 : Option Nat) (σ : SG) : Option (Int32 × SG) :=
  (sGetR a0 7 5 σ).bind fun x1 =>
  (sGetI x1 5 1 σ).bind fun x2 =>
  (sGetR a0 7 5 σ).bind fun x3 =>
  (sPutI x3 5 1 (0 : Int32) σ).bind fun σ4 =>
  some (x2, σ4)
def rmX8_fault : Room := { frames := 4, cells := 0, slots := 0, locals := 83 }
def m_X8_fault (a0 : Option Nat) (σ : SG) : Option (Int32 × SG) :=
  (sGetR a0 7 5 σ).bind fun x1 =>
  (sObj x1 5 σ).bind fun _ =>
  bnd (m_X5_firstFault x1 σ) fun r2 σ3 =>
  some (r2, σ3)
def rmX8_perform : Room := { frames := 6, cells := 0, slots := 0, locals := 139 }
def m_X8_perform_b170 (rec37 : Option Nat → Int32 → Int32 → Int32 → SG → Option (Int32 × SG)) (v0 : Option Nat) (v2 : Int32) (v3 : Int32) (v4 : Int32) (σ : SG) : Option (Int32 × SG) :=
  rec37 v0 v2 v3 ((v4 + 1)) σ
def m_X8_perform_B37 (rec37 : Option Nat → Int32 → Int32 → Int32 → SG → Option (Int32 × SG)) (v0 : Option Nat) (v2 : Int32) (v3 : Int32) (v4 : Int32) (σ : SG) : Option (Int32 × SG) :=
  (sGetR v0 7 5 σ).bind fun x1 =>
  (sGetI x1 5 1 σ).bind fun x2 =>
  if x2 ≤ v4 then (
    some (v2, σ)
  ) else (
    (sGetR v0 7 5 σ).bind fun x4 =>
    (sObj x4 5 σ).bind fun _ =>
    bnd (m_X5_signAt x4 v4 σ) fun r5 σ6 =>
    if r5 = (58 : Int32) then (
      (sGetR v0 7 5 σ6).bind fun x8 =>
      (sObj x8 5 σ6).bind fun _ =>
      bnd (m_X5_signAt x8 (v4 - (1 : Int32)) σ6) fun r9 σ10 =>
      m_X8_perform_b170 rec37 v0 v2 ((r9 - (48 : Int32))) v4 σ10
    ) else (
      if r5 = (116 : Int32) then (
        (sGetR v0 7 0 σ6).bind fun x12 =>
        (sGetR v0 7 5 σ6).bind fun x13 =>
        (sObj x13 5 σ6).bind fun _ =>
        bnd (m_X5_beatsBehind x13 v4 σ6) fun r14 σ15 =>
        (sObj x12 3 σ15).bind fun _ =>
        bnd (m_X3_letPass x12 r14 σ15) fun r16 σ17 =>
        m_X8_perform_b170 rec37 v0 ((v2 + 1)) v3 v4 σ17
      ) else (
        bnd (m_X5_isLetter r5 σ6) fun r18 σ19 =>
        if r18 = 0 then (
          m_X8_perform_b170 rec37 v0 v2 v3 v4 σ19
        ) else (
          (sGetR v0 7 5 σ19).bind fun x21 =>
          (sObj x21 5 σ19).bind fun _ =>
          bnd (m_X5_signAt x21 (v4 + (1 : Int32)) σ19) fun r22 σ23 =>
          bnd (m_X5_wordOf r5 r22 σ23) fun r24 σ25 =>
          (sGetR v0 7 0 σ25).bind fun x26 =>
          (sObj x26 3 σ25).bind fun _ =>
          bnd (m_X3_refusalOfWord x26 v3 r24 σ25) fun r27 σ28 =>
          if 0 ≤ r27 then (
            (sGetR v0 7 0 σ28).bind fun x30 =>
            (sObj x30 3 σ28).bind fun _ =>
            bnd (m_X3_giveWord x30 v3 r24 σ28) fun r31 σ32 =>
            m_X8_perform_b170 rec37 v0 ((v2 + 1)) v3 v4 σ32
          ) else (
            some (v2, σ28)
          )
        )
      )
    )
  )
def m_X8_perform_L37 (n : Nat) : Option Nat → Int32 → Int32 → Int32 → SG → Option (Int32 × SG) := itF (fun _ _ _ _ _ => none) (m_X8_perform_B37 ) n
def m_X8_perform (a0 : Option Nat) (σ : SG) : Option (Int32 × SG) :=
  (sGetR a0 7 5 σ).bind fun x33 =>
  (sObj x33 5 σ).bind fun _ =>
  bnd (m_X5_firstFault x33 σ) fun r34 σ35 =>
  if r34 = (-5 : Int32) then (
    (sGetR a0 7 4 σ35).bind fun x37 =>
    (sGetR a0 7 0 σ35).bind fun x38 =>
    (sObj x37 0 σ35).bind fun _ =>
    bnd (m_X0_keep x37 x38 σ35) fun _ σ39 =>
    m_X8_perform_L37 1000 a0 ((0 : Int32)) ((-1 : Int32)) ((0 : Int32)) σ39
  ) else (
    some (((-100 : Int32) - r34), σ35)
  )
def rmX8_undo : Room := { frames := 4, cells := 0, slots := 0, locals := 86 }
def m_X8_undo (a0 : Option Nat) (σ : SG) : Option (Int32 × SG) :=
  (sGetR a0 7 4 σ).bind fun x1 =>
  (sObj x1 0 σ).bind fun _ =>
  bnd (m_X0_isEmpty x1 σ) fun r2 σ3 =>
  if r2 = 0 then (
    (sGetR a0 7 4 σ3).bind fun x5 =>
    (sGetR a0 7 0 σ3).bind fun x6 =>
    (sObj x5 0 σ3).bind fun _ =>
    bnd (m_X0_takeBack x5 x6 σ3) fun _ σ7 =>
    (sGetR a0 7 4 σ7).bind fun x8 =>
    (sGetI x8 0 1 σ7).bind fun x9 =>
    some (x9, σ7)
  ) else (
    some ((-5 : Int32), σ3)
  )
def rmX8_save : Room := { frames := 3, cells := 0, slots := 0, locals := 65 }
def m_X8_save (a0 : Option Nat) (σ : SG) : Option (Int32 × SG) :=
  (sGetR a0 7 2 σ).bind fun x1 =>
  (sGetR a0 7 0 σ).bind fun x2 =>
  (sObj x1 3 σ).bind fun _ =>
  bnd (m_X3_copyFrom x1 x2 σ) fun _ σ3 =>
  (sPutZ a0 7 3 (1 : Int32) σ3).bind fun σ4 =>
  (sGetR a0 7 0 σ4).bind fun x5 =>
  (sGetI x5 3 6 σ4).bind fun x6 =>
  some (x6, σ4)
def rmX8_restore : Room := { frames := 4, cells := 0, slots := 0, locals := 86 }
def m_X8_restore (a0 : Option Nat) (σ : SG) : Option (Int32 × SG) :=
  (sGetI a0 7 3 σ).bind fun x1 =>
  if x1 = 0 then (
    some ((-4 : Int32), σ)
  ) else (
    (sGetR a0 7 4 σ).bind fun x3 =>
    (sGetR a0 7 0 σ).bind fun x4 =>
    (sObj x3 0 σ).bind fun _ =>
    bnd (m_X0_keep x3 x4 σ) fun _ σ5 =>
    (sGetR a0 7 0 σ5).bind fun x6 =>
    (sGetR a0 7 2 σ5).bind fun x7 =>
    (sObj x6 3 σ5).bind fun _ =>
    bnd (m_X3_copyFrom x6 x7 σ5) fun _ σ8 =>
    (sGetR a0 7 0 σ8).bind fun x9 =>
    (sGetI x9 3 6 σ8).bind fun x10 =>
    some (x10, σ8)
  )
def rmX8_senderOf : Room := { frames := 2, cells := 0, slots := 0, locals := 44 }
def m_X8_senderOf (a0 : Option Nat) (a1 : Int32) (a2 : Int32) (σ : SG) : Option (Int32 × SG) :=
  (sGetR a0 7 0 σ).bind fun x1 =>
  (sObj x1 3 σ).bind fun _ =>
  bnd (m_X3_senderAt x1 a1 σ) fun r2 σ3 =>
  if r2 = none then (
    some ((-1 : Int32), σ3)
  ) else (
    swK a2 [
      (0, (
        (sGetI r2 6 2 σ3).bind fun x5 =>
        some (x5, σ3)
      )),
      (1, (
        (sGetI r2 6 5 σ3).bind fun x6 =>
        some (x6, σ3)
      )),
      (2, (
        (sGetI r2 6 4 σ3).bind fun x7 =>
        some (x7, σ3)
      )),
      (3, (
        (sGetI r2 6 6 σ3).bind fun x8 =>
        if x8 = 0 then (
          some ((-5 : Int32), σ3)
        ) else (
          (sGetI r2 6 8 σ3).bind fun x10 =>
          some (x10, σ3)
        )
      )),
      (4, (
        (sGetI r2 6 6 σ3).bind fun x11 =>
        if x11 = 0 then (
          some ((-5 : Int32), σ3)
        ) else (
          (sGetI r2 6 7 σ3).bind fun x13 =>
          some (x13, σ3)
        )
      )),
      (5, (
        (sGetI r2 6 9 σ3).bind fun x14 =>
        some (x14, σ3)
      )),
      (6, (
        (sGetI r2 6 6 σ3).bind fun x15 =>
        if x15 = 0 then (
          some ((-5 : Int32), σ3)
        ) else (
          (sObj r2 6 σ3).bind fun _ =>
          bnd (m_X6_bitToSend r2 σ3) fun r17 σ18 =>
          some (r17, σ18)
        )
      ))
    ] (
      some ((-2 : Int32), σ3)
    )
  )
def rmX8_queued : Room := { frames := 2, cells := 0, slots := 0, locals := 44 }
def m_X8_queued (a0 : Option Nat) (a1 : Int32) (a2 : Int32) (σ : SG) : Option (Int32 × SG) :=
  (sGetR a0 7 0 σ).bind fun x1 =>
  (sObj x1 3 σ).bind fun _ =>
  bnd (m_X3_senderAt x1 a1 σ) fun r2 σ3 =>
  if r2 = none then (
    some ((-1 : Int32), σ3)
  ) else (
    if 0 ≤ a2 then (
      (sObj r2 6 σ3).bind fun _ =>
      bnd (m_X6_wordAt r2 a2 σ3) fun r6 σ7 =>
      some (r6, σ7)
    ) else (
      some ((-2 : Int32), σ3)
    )
  )
def rmX8_machineOf : Room := { frames := 2, cells := 0, slots := 0, locals := 44 }
def m_X8_machineOf (a0 : Option Nat) (a1 : Int32) (a2 : Int32) (σ : SG) : Option (Int32 × SG) :=
  (sGetR a0 7 0 σ).bind fun x1 =>
  (sObj x1 3 σ).bind fun _ =>
  bnd (m_X3_machineAt x1 a1 σ) fun r2 σ3 =>
  if r2 = none then (
    some ((-1 : Int32), σ3)
  ) else (
    swK a2 [
      (0, (
        (sGetI r2 2 2 σ3).bind fun x5 =>
        some (x5, σ3)
      )),
      (1, (
        (sGetI r2 2 3 σ3).bind fun x6 =>
        some (x6, σ3)
      )),
      (2, (
        (sGetI r2 2 4 σ3).bind fun x7 =>
        some (x7, σ3)
      )),
      (3, (
        (sGetI r2 2 5 σ3).bind fun x8 =>
        bnd (m_X8_asNumber x8 σ3) fun r9 σ10 =>
        some (r9, σ10)
      ))
    ] (
      some ((-2 : Int32), σ3)
    )
  )
def rmX8_lampOf : Room := { frames := 2, cells := 0, slots := 0, locals := 44 }
def m_X8_lampOf (a0 : Option Nat) (a1 : Int32) (a2 : Int32) (σ : SG) : Option (Int32 × SG) :=
  (sGetR a0 7 0 σ).bind fun x1 =>
  (sObj x1 3 σ).bind fun _ =>
  bnd (m_X3_lampAt x1 a1 σ) fun r2 σ3 =>
  if r2 = none then (
    some ((-1 : Int32), σ3)
  ) else (
    swK a2 [
      (0, (
        (sGetI r2 1 2 σ3).bind fun x5 =>
        some (x5, σ3)
      )),
      (1, (
        (sGetI r2 1 3 σ3).bind fun x6 =>
        some (x6, σ3)
      )),
      (2, (
        (sGetI r2 1 4 σ3).bind fun x7 =>
        some (x7, σ3)
      )),
      (3, (
        (sGetI r2 1 5 σ3).bind fun x8 =>
        some (x8, σ3)
      )),
      (4, (
        (sGetI r2 1 6 σ3).bind fun x9 =>
        bnd (m_X8_asNumber x9 σ3) fun r10 σ11 =>
        some (r10, σ11)
      ))
    ] (
      some ((-2 : Int32), σ3)
    )
  )
def rmX8_receiver : Room := { frames := 1, cells := 0, slots := 0, locals := 20 }
def m_X8_receiver (a0 : Option Nat) (a1 : Int32) (a2 : Int32) (σ : SG) : Option (Int32 × SG) :=
  bnd (m_X8_isWire a1 σ) fun r1 σ2 =>
  if r1 = 0 then (
    some ((-1 : Int32), σ2)
  ) else (
    (sGetR a0 7 0 σ2).bind fun x4 =>
    (sGetR x4 3 3 σ2).bind fun x5 =>
    (sAldR x5 a1 σ2).bind fun x6 =>
    swK a2 [
      (0, (
        (sGetI x6 4 0 σ2).bind fun x7 =>
        if x7 = 0 then (
          some ((-5 : Int32), σ2)
        ) else (
          (sGetI x6 4 2 σ2).bind fun x9 =>
          some (x9, σ2)
        )
      )),
      (1, (
        (sGetI x6 4 0 σ2).bind fun x10 =>
        if x10 = 0 then (
          (sGetI x6 4 1 σ2).bind fun x12 =>
          some (x12, σ2)
        ) else (
          some ((-5 : Int32), σ2)
        )
      )),
      (2, (
        (sGetI x6 4 4 σ2).bind fun x13 =>
        some (x13, σ2)
      )),
      (3, (
        (sGetI x6 4 4 σ2).bind fun x14 =>
        if x14 = (-5 : Int32) then (
          some ((-5 : Int32), σ2)
        ) else (
          (sGetR a0 7 0 σ2).bind fun x16 =>
          (sGetI x16 3 6 σ2).bind fun x17 =>
          (sGetI x6 4 5 σ2).bind fun x18 =>
          some ((x17 - x18), σ2)
        )
      )),
      (4, (
        (sGetI x6 4 6 σ2).bind fun x19 =>
        some (x19, σ2)
      ))
    ] (
      some ((-2 : Int32), σ2)
    )
  )
def rmX8_frame : Room := { frames := 1, cells := 0, slots := 0, locals := 23 }
def m_X8_frame (a0 : Option Nat) (a1 : Int32) (a2 : Int32) (σ : SG) : Option (Int32 × SG) :=
  bnd (m_X8_isWord a1 σ) fun r1 σ2 =>
  if r1 = 0 then (
    some ((-2 : Int32), σ2)
  ) else (
    if a2 < 0 then (
      some ((-2 : Int32), σ2)
    ) else (
      if a2 < (14 : Int32) then (
        bnd (m_X8_frameBit a1 a2 σ2) fun r6 σ7 =>
        some (r6, σ7)
      ) else (
        some ((-2 : Int32), σ2)
      )
    )
  )
def rmX8_loss : Room := { frames := 1, cells := 0, slots := 0, locals := 24 }
def m_X8_loss (a0 : Option Nat) (a1 : Int32) (a2 : Int32) (σ : SG) : Option (Int32 × SG) :=
  bnd (m_X8_isWire a1 σ) fun r1 σ2 =>
  if r1 = 0 then (
    some ((-1 : Int32), σ2)
  ) else (
    bnd (m_X8_isWire a2 σ2) fun r4 σ5 =>
    if r4 = 0 then (
      some ((-1 : Int32), σ5)
    ) else (
      (sGetR a0 7 0 σ5).bind fun x7 =>
      (sObj x7 3 σ5).bind fun _ =>
      bnd (m_X3_lossBetween x7 a1 a2 σ5) fun r8 σ9 =>
      some (r8, σ9)
    )
  )
def rmX8_presentIn : Room := { frames := 1, cells := 0, slots := 0, locals := 20 }
def m_X8_presentIn_B10 (rec10 : Int32 → Option Nat → Int32 → Int32 → SG → Option (Int32 × SG)) (v1 : Int32) (v2 : Option Nat) (v3 : Int32) (v4 : Int32) (σ : SG) : Option (Int32 × SG) :=
  if v3 ≤ v4 then (
    some (v1, σ)
  ) else (
    (sAldR v2 v4 σ).bind fun x2 =>
    (sGetIT x2 [1, 2, 6] 1 σ).bind fun x3 =>
    bnd (m_X8_asNumber x3 σ) fun r4 σ5 =>
    rec10 ((v1 + r4)) v2 v3 ((v4 + 1)) σ5
  )
def m_X8_presentIn_L10 (n : Nat) : Int32 → Option Nat → Int32 → Int32 → SG → Option (Int32 × SG) := itF (fun _ _ _ _ _ => none) (m_X8_presentIn_B10 ) n
def m_X8_presentIn (a0 : Option Nat) (σ : SG) : Option (Int32 × SG) :=
  (sLen a0 σ).bind fun x6 =>
  m_X8_presentIn_L10 1000 ((0 : Int32)) a0 x6 ((0 : Int32)) σ
def rmX8_count : Room := { frames := 2, cells := 0, slots := 0, locals := 45 }
def m_X8_count (a0 : Option Nat) (a1 : Int32) (σ : SG) : Option (Int32 × SG) :=
  swK a1 [
    (0, (
      (sGetR a0 7 0 σ).bind fun x1 =>
      (sGetI x1 3 6 σ).bind fun x2 =>
      some (x2, σ)
    )),
    (1, (
      (sGetR a0 7 0 σ).bind fun x3 =>
      (sGetR x3 3 0 σ).bind fun x4 =>
      bnd (m_X8_presentIn x4 σ) fun r5 σ6 =>
      some (r5, σ6)
    )),
    (2, (
      (sGetR a0 7 0 σ).bind fun x7 =>
      (sGetR x7 3 1 σ).bind fun x8 =>
      bnd (m_X8_presentIn x8 σ) fun r9 σ10 =>
      some (r9, σ10)
    )),
    (3, (
      (sGetR a0 7 0 σ).bind fun x11 =>
      (sGetR x11 3 2 σ).bind fun x12 =>
      bnd (m_X8_presentIn x12 σ) fun r13 σ14 =>
      some (r13, σ14)
    )),
    (4, (
      (sGetR a0 7 0 σ).bind fun x15 =>
      (sObj x15 3 σ).bind fun _ =>
      bnd (m_X3_speakingSenders x15 σ) fun r16 σ17 =>
      some (r16, σ17)
    )),
    (5, (
      (sGetR a0 7 0 σ).bind fun x18 =>
      (sObj x18 3 σ).bind fun _ =>
      bnd (m_X3_queuedWords x18 σ) fun r19 σ20 =>
      some (r19, σ20)
    )),
    (6, (
      (sGetR a0 7 0 σ).bind fun x21 =>
      (sObj x21 3 σ).bind fun _ =>
      bnd (m_X3_litLamps x21 σ) fun r22 σ23 =>
      some (r22, σ23)
    )),
    (7, (
      (sGetR a0 7 0 σ).bind fun x24 =>
      (sGetR x24 3 4 σ).bind fun x25 =>
      (sAld x25 1 (0 : Int32) σ).bind fun x26 =>
      some (x26, σ)
    )),
    (8, (
      (sGetR a0 7 0 σ).bind fun x27 =>
      (sGetR x27 3 4 σ).bind fun x28 =>
      (sAld x28 1 (1 : Int32) σ).bind fun x29 =>
      some (x29, σ)
    )),
    (9, (
      (sGetR a0 7 0 σ).bind fun x30 =>
      (sGetR x30 3 4 σ).bind fun x31 =>
      (sAld x31 1 (2 : Int32) σ).bind fun x32 =>
      some (x32, σ)
    )),
    (10, (
      (sGetR a0 7 0 σ).bind fun x33 =>
      (sGetR x33 3 4 σ).bind fun x34 =>
      (sAld x34 1 (3 : Int32) σ).bind fun x35 =>
      some (x35, σ)
    )),
    (11, (
      (sGetR a0 7 4 σ).bind fun x36 =>
      (sGetI x36 0 1 σ).bind fun x37 =>
      some (x37, σ)
    )),
    (12, (
      (sGetR a0 7 5 σ).bind fun x38 =>
      (sGetI x38 5 1 σ).bind fun x39 =>
      some (x39, σ)
    ))
  ] (
    some ((-2 : Int32), σ)
  )
def rmX8_total : Room := { frames := 0, cells := 0, slots := 0, locals := 0 }
def m_X8_total (a0 : Option Nat) (a1 : Int32) (σ : SG) : Option (Int32 × SG) :=
  if a1 < 0 then (
    some ((-2 : Int32), σ)
  ) else (
    if a1 < (5 : Int32) then (
      (sGetR a0 7 0 σ).bind fun x3 =>
      (sGetR x3 3 5 σ).bind fun x4 =>
      (sAld x4 1 a1 σ).bind fun x5 =>
      some (x5, σ)
    ) else (
      some ((-2 : Int32), σ)
    )
  )
def rmX8_silentIn : Room := { frames := 5, cells := 0, slots := 0, locals := 116 }
def m_X8_silentIn_B13 (rec13 : Option Nat → Int32 → SG → Option (Int32 × SG)) (v0 : Option Nat) (v1 : Int32) (σ : SG) : Option (Int32 × SG) :=
  if (600 : Int32) < v1 then (
    some ((-5 : Int32), σ)
  ) else (
    (sGetR v0 7 1 σ).bind fun x2 =>
    (sObj x2 3 σ).bind fun _ =>
    bnd (m_X3_queuedWords x2 σ) fun r3 σ4 =>
    if r3 = 0 then (
      some (v1, σ4)
    ) else (
      (sGetR v0 7 1 σ4).bind fun x6 =>
      (sObj x6 3 σ4).bind fun _ =>
      bnd (m_X3_beat x6 σ4) fun r7 σ8 =>
      rec13 v0 ((v1 + 1)) σ8
    )
  )
def m_X8_silentIn_L13 (n : Nat) : Option Nat → Int32 → SG → Option (Int32 × SG) := itF (fun _ _ _ => none) (m_X8_silentIn_B13 ) n
def m_X8_silentIn (a0 : Option Nat) (σ : SG) : Option (Int32 × SG) :=
  (sGetR a0 7 1 σ).bind fun x9 =>
  (sGetR a0 7 0 σ).bind fun x10 =>
  (sObj x9 3 σ).bind fun _ =>
  bnd (m_X3_copyFrom x9 x10 σ) fun _ σ11 =>
  m_X8_silentIn_L13 1000 a0 ((0 : Int32)) σ11
def rmX8_levelIn : Room := { frames := 6, cells := 0, slots := 0, locals := 139 }
def m_X8_levelIn (a0 : Option Nat) (a1 : Int32) (a2 : Int32) (σ : SG) : Option (Int32 × SG) :=
  (sGetR a0 7 0 σ).bind fun x1 =>
  (sObj x1 3 σ).bind fun _ =>
  bnd (m_X3_lampAt x1 a1 σ) fun r2 σ3 =>
  if r2 = none then (
    some ((-1 : Int32), σ3)
  ) else (
    if a2 < 0 then (
      some ((-2 : Int32), σ3)
    ) else (
      if a2 ≤ (400 : Int32) then (
        (sGetR a0 7 1 σ3).bind fun x7 =>
        (sGetR a0 7 0 σ3).bind fun x8 =>
        (sObj x7 3 σ3).bind fun _ =>
        bnd (m_X3_copyFrom x7 x8 σ3) fun _ σ9 =>
        (sGetR a0 7 1 σ9).bind fun x10 =>
        (sObj x10 3 σ9).bind fun _ =>
        bnd (m_X3_letPass x10 a2 σ9) fun r11 σ12 =>
        (sGetR a0 7 1 σ12).bind fun x13 =>
        (sObj x13 3 σ12).bind fun _ =>
        bnd (m_X3_lampAt x13 a1 σ12) fun r14 σ15 =>
        if r14 = none then (
          some ((-1 : Int32), σ15)
        ) else (
          (sGetI r14 1 5 σ15).bind fun x17 =>
          some (x17, σ15)
        )
      ) else (
        some ((-2 : Int32), σ3)
      )
    )
  )
def rmX8_freshness : Room := { frames := 0, cells := 0, slots := 0, locals := 0 }
def m_X8_freshness (a0 : Option Nat) (σ : SG) : Option (UInt32 × SG) :=
  (sGetR a0 7 0 σ).bind fun x1 =>
  (sGetR x1 3 5 σ).bind fun x2 =>
  (sAld x2 1 (2 : Int32) σ).bind fun x3 =>
  (sGetR a0 7 0 σ).bind fun x4 =>
  (sGetR x4 3 5 σ).bind fun x5 =>
  (sAld x5 1 (3 : Int32) σ).bind fun x6 =>
  (sGetR a0 7 0 σ).bind fun x7 =>
  (sGetR x7 3 5 σ).bind fun x8 =>
  (sAld x8 1 (4 : Int32) σ).bind fun x9 =>
  if ((x3 + x6) + x9) = 0 then (
    some (FP.fconst0, σ)
  ) else (
    (sGetR a0 7 0 σ).bind fun x11 =>
    (sGetR x11 3 5 σ).bind fun x12 =>
    (sAld x12 1 (2 : Int32) σ).bind fun x13 =>
    (sFdiv (FP.i2f x13) (FP.i2f ((x3 + x6) + x9))).bind fun f14 =>
    some (f14, σ)
  )
def rmX9_r : Room := { frames := 0, cells := 0, slots := 0, locals := 0 }
def m_X9_r (a0 : Int32) (σ : SG) : Option (Int32 × SG) :=
  some (((148 : Int32) + ((7 : Int32) * a0)), σ)
def rmX9_init : Room := { frames := 1, cells := 10, slots := 8000, locals := 20 }
def m_X9_init_B118 (lim : Nat) (rec118 : Option Nat → Int32 → SG → Option (Unit × SG)) (v0 : Option Nat) (v1 : Int32) (σ : SG) : Option (Unit × SG) :=
  if (6 : Int32) ≤ v1 then (
    sEnd lim σ
  ) else (
    (sGetR v0 8 0 σ).bind fun x2 =>
    (sRoom lim 0 σ).bind fun _ =>
    bnd (m_X9_r v1 σ) fun r3 σ4 =>
    (sSame σ4.2 (σ.2 + 0)).bind fun _ =>
    (sAst x2 1 (r3 + (6 : Int32)) (15 : Int32) σ4).bind fun σ6 =>
    rec118 v0 ((v1 + 1)) σ6
  )
def m_X9_init_L118 (lim : Nat) (n : Nat) : Option Nat → Int32 → SG → Option (Unit × SG) := itF (fun _ _ _ => none) (m_X9_init_B118 lim ) n
def m_X9_init_e (lim : Nat) (a0 : Option Nat) (σ : SG) : Option (Unit × SG) :=
  (sNN a0).bind fun _ =>
  bnd (sNewA lim 1 (190 : Int32) σ) fun x7 σ8 =>
  (sPutR a0 8 0 x7 σ8).bind fun σ10 =>
  bnd (sNewA lim 1 (190 : Int32) σ10) fun x11 σ12 =>
  (sPutR a0 8 1 x11 σ12).bind fun σ14 =>
  bnd (sNewA lim 1 (190 : Int32) σ14) fun x15 σ16 =>
  (sPutR a0 8 2 x15 σ16).bind fun σ18 =>
  bnd (sNewA lim 1 (760 : Int32) σ18) fun x19 σ20 =>
  (sPutR a0 8 3 x19 σ20).bind fun σ22 =>
  bnd (sNewA lim 1 (190 : Int32) σ22) fun x23 σ24 =>
  (sPutR a0 8 4 x23 σ24).bind fun σ26 =>
  bnd (sNewA lim 1 (6 : Int32) σ26) fun x27 σ28 =>
  (sPutR a0 8 5 x27 σ28).bind fun σ30 =>
  bnd (sNewA lim 1 (5 : Int32) σ30) fun x31 σ32 =>
  (sPutR a0 8 6 x31 σ32).bind fun σ34 =>
  bnd (sNewA lim 2 (5 : Int32) σ34) fun x35 σ36 =>
  (sPutR a0 8 7 x35 σ36).bind fun σ38 =>
  bnd (sNewA lim 1 (82 : Int32) σ38) fun x39 σ40 =>
  (sPutR a0 8 8 x39 σ40).bind fun σ42 =>
  bnd (sNewA lim 0 (80 : Int32) σ42) fun x43 σ44 =>
  (sPutR a0 8 9 x43 σ44).bind fun σ46 =>
  (sGetR a0 8 0 σ46).bind fun x47 =>
  (sAst x47 1 (0 : Int32) (6 : Int32) σ46).bind fun σ48 =>
  (sGetR a0 8 0 σ48).bind fun x49 =>
  (sAst x49 1 (1 : Int32) (5 : Int32) σ48).bind fun σ50 =>
  (sGetR a0 8 0 σ50).bind fun x51 =>
  (sAst x51 1 (2 : Int32) (4 : Int32) σ50).bind fun σ52 =>
  (sGetR a0 8 0 σ52).bind fun x53 =>
  (sAst x53 1 (3 : Int32) (2 : Int32) σ52).bind fun σ54 =>
  m_X9_init_L118 lim 1000 a0 ((0 : Int32)) σ54
def m_X9_init (a0 : Option Nat) (σ : SG) : Option (Unit × SG) := m_X9_init_e (σ.2 + 10) a0 σ
def rmX9_in : Room := { frames := 0, cells := 0, slots := 0, locals := 0 }
def m_X9_in (a0 : Int32) (a1 : Int32) (a2 : Int32) (σ : SG) : Option (Int32 × SG) :=
  if a0 < a1 then (
    chkZ (0 : Int32) σ
  ) else (
    if a2 < a0 then (
      chkZ (0 : Int32) σ
    ) else (
      chkZ (1 : Int32) σ
    )
  )
def rmX9_n : Room := { frames := 0, cells := 0, slots := 0, locals := 0 }
def m_X9_n (a0 : Int32) (σ : SG) : Option (Int32 × SG) :=
  some (((10 : Int32) + ((14 : Int32) * a0)), σ)
def rmX9_m : Room := { frames := 0, cells := 0, slots := 0, locals := 0 }
def m_X9_m (a0 : Int32) (σ : SG) : Option (Int32 × SG) :=
  some (((80 : Int32) + ((5 : Int32) * a0)), σ)
def rmX9_l : Room := { frames := 0, cells := 0, slots := 0, locals := 0 }
def m_X9_l (a0 : Int32) (σ : SG) : Option (Int32 × SG) :=
  some (((100 : Int32) + ((6 : Int32) * a0)), σ)
def rmX9_isWire : Room := { frames := 1, cells := 0, slots := 0, locals := 22 }
def m_X9_isWire (a0 : Int32) (σ : SG) : Option (Int32 × SG) :=
  bnd (m_X9_in a0 (0 : Int32) (5 : Int32) σ) fun r1 σ2 =>
  chkZ r1 σ2
def rmX9_isSender : Room := { frames := 1, cells := 0, slots := 0, locals := 22 }
def m_X9_isSender (a0 : Option Nat) (a1 : Int32) (σ : SG) : Option (Int32 × SG) :=
  bnd (m_X9_in a1 (0 : Int32) (4 : Int32) σ) fun r1 σ2 =>
  if r1 = 0 then (
    chkZ (0 : Int32) σ2
  ) else (
    (sGetR a0 8 0 σ2).bind fun x4 =>
    bnd (m_X9_n a1 σ2) fun r5 σ6 =>
    (sAld x4 1 r5 σ6).bind fun x7 =>
    if x7 = (1 : Int32) then (
      chkZ (1 : Int32) σ6
    ) else (
      chkZ (0 : Int32) σ6
    )
  )
def rmX9_isMachine : Room := { frames := 1, cells := 0, slots := 0, locals := 22 }
def m_X9_isMachine (a0 : Option Nat) (a1 : Int32) (σ : SG) : Option (Int32 × SG) :=
  bnd (m_X9_in a1 (0 : Int32) (3 : Int32) σ) fun r1 σ2 =>
  if r1 = 0 then (
    chkZ (0 : Int32) σ2
  ) else (
    (sGetR a0 8 0 σ2).bind fun x4 =>
    bnd (m_X9_m a1 σ2) fun r5 σ6 =>
    (sAld x4 1 r5 σ6).bind fun x7 =>
    if x7 = (1 : Int32) then (
      chkZ (1 : Int32) σ6
    ) else (
      chkZ (0 : Int32) σ6
    )
  )
def rmX9_isLamp : Room := { frames := 1, cells := 0, slots := 0, locals := 22 }
def m_X9_isLamp (a0 : Option Nat) (a1 : Int32) (σ : SG) : Option (Int32 × SG) :=
  bnd (m_X9_in a1 (0 : Int32) (7 : Int32) σ) fun r1 σ2 =>
  if r1 = 0 then (
    chkZ (0 : Int32) σ2
  ) else (
    (sGetR a0 8 0 σ2).bind fun x4 =>
    bnd (m_X9_l a1 σ2) fun r5 σ6 =>
    (sAld x4 1 r5 σ6).bind fun x7 =>
    if x7 = (1 : Int32) then (
      chkZ (1 : Int32) σ6
    ) else (
      chkZ (0 : Int32) σ6
    )
  )
def rmX9_hold : Room := { frames := 0, cells := 0, slots := 0, locals := 0 }
def m_X9_hold_B2 (rec2 : Option Nat → Int32 → SG → Option (Unit × SG)) (v0 : Option Nat) (v1 : Int32) (σ : SG) : Option (Unit × SG) :=
  if (190 : Int32) ≤ v1 then (
    some ((), σ)
  ) else (
    (sGetR v0 8 1 σ).bind fun x2 =>
    (sGetR v0 8 0 σ).bind fun x3 =>
    (sAld x3 1 v1 σ).bind fun x4 =>
    (sAst x2 1 v1 x4 σ).bind fun σ5 =>
    rec2 v0 ((v1 + 1)) σ5
  )
def m_X9_hold_L2 (n : Nat) : Option Nat → Int32 → SG → Option (Unit × SG) := itF (fun _ _ _ => none) (m_X9_hold_B2 ) n
def m_X9_hold (a0 : Option Nat) (σ : SG) : Option (Unit × SG) :=
  m_X9_hold_L2 1000 a0 ((0 : Int32)) σ
def rmX9_recorded : Room := { frames := 0, cells := 0, slots := 0, locals := 0 }
def m_X9_recorded_B51 (rec51 : Option Nat → Int32 → Int32 → SG → Option (Int32 × SG)) (v0 : Option Nat) (v1 : Int32) (v2 : Int32) (σ : SG) : Option (Int32 × SG) :=
  if (190 : Int32) ≤ v2 then (
    (sGetI v0 8 12 σ).bind fun x2 =>
    (sPutI v0 8 12 (x2 + (1 : Int32)) σ).bind fun σ3 =>
    some (v1, σ3)
  ) else (
    (sGetR v0 8 3 σ).bind fun x4 =>
    (sGetI v0 8 12 σ).bind fun x5 =>
    (sGetR v0 8 1 σ).bind fun x6 =>
    (sAld x6 1 v2 σ).bind fun x7 =>
    (sAst x4 1 (((190 : Int32) * x5) + v2) x7 σ).bind fun σ8 =>
    rec51 v0 v1 ((v2 + 1)) σ8
  )
def m_X9_recorded_L51 (n : Nat) : Option Nat → Int32 → Int32 → SG → Option (Int32 × SG) := itF (fun _ _ _ _ => none) (m_X9_recorded_B51 ) n
def m_X9_recorded_b49 (v0 : Option Nat) (v1 : Int32) (σ : SG) : Option (Int32 × SG) :=
  m_X9_recorded_L51 1000 v0 v1 ((0 : Int32)) σ
def m_X9_recorded_B10 (rec10 : Option Nat → Int32 → Int32 → SG → Option (Int32 × SG)) (v0 : Option Nat) (v1 : Int32) (v2 : Int32) (σ : SG) : Option (Int32 × SG) :=
  if (570 : Int32) ≤ v2 then (
    (sGetI v0 8 12 σ).bind fun x10 =>
    (sPutI v0 8 12 (x10 - (1 : Int32)) σ).bind fun σ11 =>
    m_X9_recorded_b49 v0 v1 σ11
  ) else (
    (sGetR v0 8 3 σ).bind fun x12 =>
    (sGetR v0 8 3 σ).bind fun x13 =>
    (sAld x13 1 ((190 : Int32) + v2) σ).bind fun x14 =>
    (sAst x12 1 v2 x14 σ).bind fun σ15 =>
    rec10 v0 v1 ((v2 + 1)) σ15
  )
def m_X9_recorded_L10 (n : Nat) : Option Nat → Int32 → Int32 → SG → Option (Int32 × SG) := itF (fun _ _ _ _ => none) (m_X9_recorded_B10 ) n
def m_X9_recorded (a0 : Option Nat) (a1 : Int32) (σ : SG) : Option (Int32 × SG) :=
  (sGetI a0 8 12 σ).bind fun x16 =>
  if x16 = (4 : Int32) then (
    m_X9_recorded_L10 1000 a0 a1 ((0 : Int32)) σ
  ) else (
    m_X9_recorded_b49 a0 a1 σ
  )
def rmX9_keepTrial : Room := { frames := 0, cells := 0, slots := 0, locals := 0 }
def m_X9_keepTrial_B2 (rec2 : Option Nat → Int32 → SG → Option (Unit × SG)) (v0 : Option Nat) (v1 : Int32) (σ : SG) : Option (Unit × SG) :=
  if (190 : Int32) ≤ v1 then (
    some ((), σ)
  ) else (
    (sGetR v0 8 2 σ).bind fun x2 =>
    (sGetR v0 8 0 σ).bind fun x3 =>
    (sAld x3 1 v1 σ).bind fun x4 =>
    (sAst x2 1 v1 x4 σ).bind fun σ5 =>
    rec2 v0 ((v1 + 1)) σ5
  )
def m_X9_keepTrial_L2 (n : Nat) : Option Nat → Int32 → SG → Option (Unit × SG) := itF (fun _ _ _ => none) (m_X9_keepTrial_B2 ) n
def m_X9_keepTrial (a0 : Option Nat) (σ : SG) : Option (Unit × SG) :=
  m_X9_keepTrial_L2 1000 a0 ((0 : Int32)) σ
def rmX9_putBack : Room := { frames := 0, cells := 0, slots := 0, locals := 0 }
def m_X9_putBack_B2 (rec2 : Option Nat → Int32 → SG → Option (Unit × SG)) (v0 : Option Nat) (v1 : Int32) (σ : SG) : Option (Unit × SG) :=
  if (190 : Int32) ≤ v1 then (
    some ((), σ)
  ) else (
    (sGetR v0 8 0 σ).bind fun x2 =>
    (sGetR v0 8 2 σ).bind fun x3 =>
    (sAld x3 1 v1 σ).bind fun x4 =>
    (sAst x2 1 v1 x4 σ).bind fun σ5 =>
    rec2 v0 ((v1 + 1)) σ5
  )
def m_X9_putBack_L2 (n : Nat) : Option Nat → Int32 → SG → Option (Unit × SG) := itF (fun _ _ _ => none) (m_X9_putBack_B2 ) n
def m_X9_putBack (a0 : Option Nat) (σ : SG) : Option (Unit × SG) :=
  m_X9_putBack_L2 1000 a0 ((0 : Int32)) σ
def rmX9_frameBit : Room := { frames := 0, cells := 0, slots := 0, locals := 0 }
def m_X9_frameBit (a0 : Int32) (a1 : Int32) (σ : SG) : Option (Int32 × SG) :=
  if (4 : Int32) ≤ a1 then (
    if (2 : Int32) = 0 then none else
    if (2 : Int32) = 0 then none else
    if (a1 - a1 / (2 : Int32) * (2 : Int32)) = 0 then (
      some (((a0 >>> (((4 : Int32) - ((a1 - (4 : Int32)) / (2 : Int32))) &&& 31)) &&& (1 : Int32)), σ)
    ) else (
      some (((1 : Int32) - ((a0 >>> (((4 : Int32) - ((a1 - (4 : Int32)) / (2 : Int32))) &&& 31)) &&& (1 : Int32))), σ)
    )
  ) else (
    if (3 : Int32) ≤ a1 then (
      some ((0 : Int32), σ)
    ) else (
      some ((1 : Int32), σ)
    )
  )
def rmX9_lossOf : Room := { frames := 0, cells := 0, slots := 0, locals := 0 }
def m_X9_lossOf_b40 (s0 : Int32) (s1 : Int32) (σ : SG) : Option (Int32 × SG) :=
  some ((s0 + s1), σ)
def m_X9_lossOf_b19 (v0 : Option Nat) (v1 : Int32) (v2 : Int32) (s0 : Int32) (σ : SG) : Option (Int32 × SG) :=
  if (3 : Int32) = 0 then none else
  if (3 : Int32) = 0 then none else
  if (v1 / (3 : Int32)) = (v2 / (3 : Int32)) then (
    m_X9_lossOf_b40 s0 ((0 : Int32)) σ
  ) else (
    (sGetR v0 8 0 σ).bind fun x2 =>
    (sAld x2 1 (1 : Int32) σ).bind fun x3 =>
    m_X9_lossOf_b40 s0 x3 σ
  )
def m_X9_lossOf (a0 : Option Nat) (a1 : Int32) (a2 : Int32) (σ : SG) : Option (Int32 × SG) :=
  if (3 : Int32) = 0 then none else
  if (3 : Int32) = 0 then none else
  if (a1 - a1 / (3 : Int32) * (3 : Int32)) = (a2 - a2 / (3 : Int32) * (3 : Int32)) then (
    m_X9_lossOf_b19 a0 a1 a2 ((0 : Int32)) σ
  ) else (
    (sGetR a0 8 0 σ).bind fun x5 =>
    (sAld x5 1 (0 : Int32) σ).bind fun x6 =>
    m_X9_lossOf_b19 a0 a1 a2 x6 σ
  )
def rmX9_bitOf : Room := { frames := 1, cells := 0, slots := 0, locals := 22 }
def m_X9_bitOf (a0 : Option Nat) (a1 : Int32) (σ : SG) : Option (Int32 × SG) :=
  (sGetR a0 8 0 σ).bind fun x1 =>
  bnd (m_X9_n a1 σ) fun r2 σ3 =>
  (sAld x1 1 (r2 + (6 : Int32)) σ3).bind fun x4 =>
  if (14 : Int32) ≤ x4 then (
    some ((0 : Int32), σ3)
  ) else (
    (sGetR a0 8 0 σ3).bind fun x6 =>
    bnd (m_X9_n a1 σ3) fun r7 σ8 =>
    (sAld x6 1 (r7 + (8 : Int32)) σ8).bind fun x9 =>
    (sGetR a0 8 0 σ8).bind fun x10 =>
    bnd (m_X9_n a1 σ8) fun r11 σ12 =>
    (sAld x10 1 (r11 + (6 : Int32)) σ12).bind fun x13 =>
    bnd (m_X9_frameBit x9 x13 σ12) fun r14 σ15 =>
    some (r14, σ15)
  )
def rmX9_begin : Room := { frames := 2, cells := 0, slots := 0, locals := 43 }
def m_X9_begin_b204 (rec153 : Option Nat → Int32 → SG → Option (Unit × SG)) (v0 : Option Nat) (v1 : Int32) (σ : SG) : Option (Unit × SG) :=
  rec153 v0 ((v1 + 1)) σ
def m_X9_begin_B153 (rec153 : Option Nat → Int32 → SG → Option (Unit × SG)) (v0 : Option Nat) (v1 : Int32) (σ : SG) : Option (Unit × SG) :=
  if (5 : Int32) ≤ v1 then (
    some ((), σ)
  ) else (
    (sGetR v0 8 7 σ).bind fun x2 =>
    (sAld x2 2 v1 σ).bind fun x3 =>
    if x3 = 0 then (
      m_X9_begin_b204 rec153 v0 v1 σ
    ) else (
      (sGetR v0 8 0 σ).bind fun x5 =>
      bnd (m_X9_n v1 σ) fun r6 σ7 =>
      (sAst x5 1 (r6 + (4 : Int32)) (1 : Int32) σ7).bind fun σ8 =>
      (sGetR v0 8 0 σ8).bind fun x9 =>
      bnd (m_X9_n v1 σ8) fun r10 σ11 =>
      (sAst x9 1 (r10 + (5 : Int32)) (0 : Int32) σ11).bind fun σ12 =>
      (sGetR v0 8 0 σ12).bind fun x13 =>
      bnd (m_X9_n v1 σ12) fun r14 σ15 =>
      (sAst x13 1 (r14 + (6 : Int32)) (0 : Int32) σ15).bind fun σ16 =>
      m_X9_begin_b204 rec153 v0 v1 σ16
    )
  )
def m_X9_begin_L153 (n : Nat) : Option Nat → Int32 → SG → Option (Unit × SG) := itF (fun _ _ _ => none) (m_X9_begin_B153 ) n
def m_X9_begin_b143 (rec2 : Option Nat → Int32 → SG → Option (Unit × SG)) (v0 : Option Nat) (v1 : Int32) (s0 : Option Nat) (s1 : Int32) (s2 : Int32) (s3 : Int32) (σ : SG) : Option (Unit × SG) :=
  (sAst s0 1 s1 (s2 - s3) σ).bind fun σ17 =>
  rec2 v0 ((v1 + 1)) σ17
def m_X9_begin_b142 (rec2 : Option Nat → Int32 → SG → Option (Unit × SG)) (v0 : Option Nat) (v1 : Int32) (s0 : Option Nat) (s1 : Int32) (s2 : Int32) (σ : SG) : Option (Unit × SG) :=
  m_X9_begin_b143 rec2 v0 v1 s0 s1 s2 ((0 : Int32)) σ
def m_X9_begin_b110 (rec2 : Option Nat → Int32 → SG → Option (Unit × SG)) (v0 : Option Nat) (v1 : Int32) (v2 : Int32) (v4 : Int32) (s0 : Option Nat) (s1 : Int32) (s2 : Int32) (σ : SG) : Option (Unit × SG) :=
  (sAst s0 2 s1 (vp_nar .boolean s2) σ).bind fun σ18 =>
  (sGetR v0 8 0 σ18).bind fun x19 =>
  (sAld x19 1 (v2 + (7 : Int32)) σ18).bind fun x20 =>
  if v4 = 0 then (
    m_X9_begin_b142 rec2 v0 v1 x19 ((v2 + (7 : Int32))) x20 σ18
  ) else (
    (sGetR v0 8 0 σ18).bind fun x22 =>
    (sAld x22 1 (v2 + (7 : Int32)) σ18).bind fun x23 =>
    if x23 ≤ 0 then (
      m_X9_begin_b142 rec2 v0 v1 x19 ((v2 + (7 : Int32))) x20 σ18
    ) else (
      m_X9_begin_b143 rec2 v0 v1 x19 ((v2 + (7 : Int32))) x20 ((1 : Int32)) σ18
    )
  )
def m_X9_begin_b109 (rec2 : Option Nat → Int32 → SG → Option (Unit × SG)) (v0 : Option Nat) (v1 : Int32) (v2 : Int32) (v4 : Int32) (s0 : Option Nat) (s1 : Int32) (σ : SG) : Option (Unit × SG) :=
  m_X9_begin_b110 rec2 v0 v1 v2 v4 s0 s1 ((0 : Int32)) σ
def m_X9_begin_b48 (rec2 : Option Nat → Int32 → SG → Option (Unit × SG)) (v0 : Option Nat) (v1 : Int32) (v2 : Int32) (v3 : Int32) (s0 : Int32) (σ : SG) : Option (Unit × SG) :=
  (sGetR v0 8 7 σ).bind fun x25 =>
  if s0 = 0 then (
    m_X9_begin_b109 rec2 v0 v1 v2 s0 x25 v1 σ
  ) else (
    (sGetR v0 8 0 σ).bind fun x27 =>
    (sAld x27 1 (v2 + (3 : Int32)) σ).bind fun x28 =>
    if x28 ≤ 0 then (
      m_X9_begin_b109 rec2 v0 v1 v2 s0 x25 v1 σ
    ) else (
      (sGetR v0 8 0 σ).bind fun x30 =>
      (sAld x30 1 (v2 + (7 : Int32)) σ).bind fun x31 =>
      if x31 = 0 then (
        (sGetR v0 8 0 σ).bind fun x33 =>
        (sAld x33 1 (v3 + (0 : Int32)) σ).bind fun x34 =>
        if x34 = 0 then (
          (sGetR v0 8 0 σ).bind fun x36 =>
          (sAld x36 1 (v3 + (1 : Int32)) σ).bind fun x37 =>
          if x37 = 0 then (
            m_X9_begin_b110 rec2 v0 v1 v2 s0 x25 v1 ((1 : Int32)) σ
          ) else (
            m_X9_begin_b109 rec2 v0 v1 v2 s0 x25 v1 σ
          )
        ) else (
          m_X9_begin_b109 rec2 v0 v1 v2 s0 x25 v1 σ
        )
      ) else (
        m_X9_begin_b109 rec2 v0 v1 v2 s0 x25 v1 σ
      )
    )
  )
def m_X9_begin_b47 (rec2 : Option Nat → Int32 → SG → Option (Unit × SG)) (v0 : Option Nat) (v1 : Int32) (v2 : Int32) (v3 : Int32) (σ : SG) : Option (Unit × SG) :=
  m_X9_begin_b48 rec2 v0 v1 v2 v3 ((0 : Int32)) σ
def m_X9_begin_B2 (rec2 : Option Nat → Int32 → SG → Option (Unit × SG)) (v0 : Option Nat) (v1 : Int32) (σ : SG) : Option (Unit × SG) :=
  if (5 : Int32) ≤ v1 then (
    m_X9_begin_L153 1000 v0 ((0 : Int32)) σ
  ) else (
    bnd (m_X9_n v1 σ) fun r40 σ41 =>
    (sGetR v0 8 0 σ41).bind fun x42 =>
    (sAld x42 1 (r40 + (1 : Int32)) σ41).bind fun x43 =>
    bnd (m_X9_r x43 σ41) fun r44 σ45 =>
    (sObj v0 8 σ45).bind fun _ =>
    bnd (m_X9_isSender v0 v1 σ45) fun r46 σ47 =>
    if r46 = 0 then (
      m_X9_begin_b47 rec2 v0 v1 r40 r44 σ47
    ) else (
      (sGetR v0 8 0 σ47).bind fun x49 =>
      (sAld x49 1 (r40 + (4 : Int32)) σ47).bind fun x50 =>
      if x50 = 0 then (
        m_X9_begin_b48 rec2 v0 v1 r40 r44 ((1 : Int32)) σ47
      ) else (
        m_X9_begin_b47 rec2 v0 v1 r40 r44 σ47
      )
    )
  )
def m_X9_begin_L2 (n : Nat) : Option Nat → Int32 → SG → Option (Unit × SG) := itF (fun _ _ _ => none) (m_X9_begin_B2 ) n
def m_X9_begin (a0 : Option Nat) (σ : SG) : Option (Unit × SG) :=
  m_X9_begin_L2 1000 a0 ((0 : Int32)) σ
def rmX9_sound : Room := { frames := 1, cells := 0, slots := 0, locals := 23 }
def m_X9_sound_b40 (rec2 : Option Nat → Int32 → Int32 → Int32 → SG → Option (Unit × SG)) (v0 : Option Nat) (v1 : Int32) (v2 : Int32) (v3 : Int32) (s0 : Option Nat) (s1 : Int32) (s2 : Int32) (σ : SG) : Option (Unit × SG) :=
  (sAst s0 1 s1 s2 σ).bind fun σ1 =>
  rec2 v0 v1 v2 ((v3 + 1)) σ1
def m_X9_sound_B2 (rec2 : Option Nat → Int32 → Int32 → Int32 → SG → Option (Unit × SG)) (v0 : Option Nat) (v1 : Int32) (v2 : Int32) (v3 : Int32) (σ : SG) : Option (Unit × SG) :=
  if (6 : Int32) ≤ v3 then (
    some ((), σ)
  ) else (
    (sGetR v0 8 5 σ).bind fun x3 =>
    (sObj v0 8 σ).bind fun _ =>
    bnd (m_X9_lossOf v0 v1 v3 σ) fun r4 σ5 =>
    (sGetR v0 8 0 σ5).bind fun x6 =>
    (sAld x6 1 (2 : Int32) σ5).bind fun x7 =>
    if (v2 - r4) < x7 then (
      (sGetR v0 8 5 σ5).bind fun x9 =>
      (sAld x9 1 v3 σ5).bind fun x10 =>
      m_X9_sound_b40 rec2 v0 v1 v2 v3 x3 v3 x10 σ5
    ) else (
      m_X9_sound_b40 rec2 v0 v1 v2 v3 x3 v3 ((1 : Int32)) σ5
    )
  )
def m_X9_sound_L2 (n : Nat) : Option Nat → Int32 → Int32 → Int32 → SG → Option (Unit × SG) := itF (fun _ _ _ _ _ => none) (m_X9_sound_B2 ) n
def m_X9_sound (a0 : Option Nat) (a1 : Int32) (a2 : Int32) (σ : SG) : Option (Unit × SG) :=
  m_X9_sound_L2 1000 a0 a1 a2 ((0 : Int32)) σ
def rmX9_send : Room := { frames := 2, cells := 0, slots := 0, locals := 46 }
def m_X9_send_b188 (rec120 : Option Nat → Int32 → SG → Option (Unit × SG)) (v0 : Option Nat) (v1 : Int32) (σ : SG) : Option (Unit × SG) :=
  rec120 v0 ((v1 + 1)) σ
def m_X9_send_B120 (rec120 : Option Nat → Int32 → SG → Option (Unit × SG)) (v0 : Option Nat) (v1 : Int32) (σ : SG) : Option (Unit × SG) :=
  if (4 : Int32) ≤ v1 then (
    some ((), σ)
  ) else (
    bnd (m_X9_m v1 σ) fun r2 σ3 =>
    (sObj v0 8 σ3).bind fun _ =>
    bnd (m_X9_isMachine v0 v1 σ3) fun r4 σ5 =>
    if r4 = 0 then (
      m_X9_send_b188 rec120 v0 v1 σ5
    ) else (
      (sGetR v0 8 0 σ5).bind fun x7 =>
      (sAld x7 1 (r2 + (4 : Int32)) σ5).bind fun x8 =>
      if x8 = (1 : Int32) then (
        (sGetR v0 8 0 σ5).bind fun x10 =>
        (sAld x10 1 (4 : Int32) σ5).bind fun x11 =>
        (sGetR v0 8 0 σ5).bind fun x12 =>
        (sAld x12 1 (r2 + (3 : Int32)) σ5).bind fun x13 =>
        if x13 = 0 then none else
        if (x11 - x11 / x13 * x13) = 0 then (
          (sGetR v0 8 0 σ5).bind fun x15 =>
          (sAld x15 1 (r2 + (1 : Int32)) σ5).bind fun x16 =>
          (sGetR v0 8 0 σ5).bind fun x17 =>
          (sAld x17 1 (r2 + (2 : Int32)) σ5).bind fun x18 =>
          (sObj v0 8 σ5).bind fun _ =>
          bnd (m_X9_sound v0 x16 x18 σ5) fun _ σ19 =>
          m_X9_send_b188 rec120 v0 v1 σ19
        ) else (
          m_X9_send_b188 rec120 v0 v1 σ5
        )
      ) else (
        m_X9_send_b188 rec120 v0 v1 σ5
      )
    )
  )
def m_X9_send_L120 (n : Nat) : Option Nat → Int32 → SG → Option (Unit × SG) := itF (fun _ _ _ => none) (m_X9_send_B120 ) n
def m_X9_send_b112 (rec23 : Option Nat → Int32 → SG → Option (Unit × SG)) (v0 : Option Nat) (v1 : Int32) (σ : SG) : Option (Unit × SG) :=
  rec23 v0 ((v1 + 1)) σ
def m_X9_send_b75 (rec23 : Option Nat → Int32 → SG → Option (Unit × SG)) (v0 : Option Nat) (v1 : Int32) (s0 : Option Nat) (s1 : Int32) (s2 : Int32) (σ : SG) : Option (Unit × SG) :=
  (sAst s0 1 s1 s2 σ).bind fun σ20 =>
  (sGetR v0 8 6 σ20).bind fun x21 =>
  (sAld x21 1 v1 σ20).bind fun x22 =>
  if x22 = (1 : Int32) then (
    (sGetR v0 8 0 σ20).bind fun x24 =>
    bnd (m_X9_n v1 σ20) fun r25 σ26 =>
    (sAld x24 1 (r25 + (1 : Int32)) σ26).bind fun x27 =>
    (sGetR v0 8 0 σ26).bind fun x28 =>
    bnd (m_X9_n v1 σ26) fun r29 σ30 =>
    (sAld x28 1 (r29 + (2 : Int32)) σ30).bind fun x31 =>
    (sObj v0 8 σ30).bind fun _ =>
    bnd (m_X9_sound v0 x27 x31 σ30) fun _ σ32 =>
    m_X9_send_b112 rec23 v0 v1 σ32
  ) else (
    m_X9_send_b112 rec23 v0 v1 σ20
  )
def m_X9_send_b56 (rec23 : Option Nat → Int32 → SG → Option (Unit × SG)) (v0 : Option Nat) (v1 : Int32) (s0 : Int32) (σ : SG) : Option (Unit × SG) :=
  (sGetR v0 8 6 σ).bind fun x33 =>
  if s0 = 0 then (
    m_X9_send_b75 rec23 v0 v1 x33 v1 ((0 : Int32)) σ
  ) else (
    (sObj v0 8 σ).bind fun _ =>
    bnd (m_X9_bitOf v0 v1 σ) fun r35 σ36 =>
    m_X9_send_b75 rec23 v0 v1 x33 v1 r35 σ36
  )
def m_X9_send_b55 (rec23 : Option Nat → Int32 → SG → Option (Unit × SG)) (v0 : Option Nat) (v1 : Int32) (σ : SG) : Option (Unit × SG) :=
  m_X9_send_b56 rec23 v0 v1 ((0 : Int32)) σ
def m_X9_send_B23 (rec23 : Option Nat → Int32 → SG → Option (Unit × SG)) (v0 : Option Nat) (v1 : Int32) (σ : SG) : Option (Unit × SG) :=
  if (5 : Int32) ≤ v1 then (
    m_X9_send_L120 1000 v0 ((0 : Int32)) σ
  ) else (
    (sObj v0 8 σ).bind fun _ =>
    bnd (m_X9_isSender v0 v1 σ) fun r38 σ39 =>
    if r38 = 0 then (
      m_X9_send_b55 rec23 v0 v1 σ39
    ) else (
      (sGetR v0 8 0 σ39).bind fun x41 =>
      bnd (m_X9_n v1 σ39) fun r42 σ43 =>
      (sAld x41 1 (r42 + (4 : Int32)) σ43).bind fun x44 =>
      if x44 = (1 : Int32) then (
        m_X9_send_b56 rec23 v0 v1 ((1 : Int32)) σ43
      ) else (
        m_X9_send_b55 rec23 v0 v1 σ43
      )
    )
  )
def m_X9_send_L23 (n : Nat) : Option Nat → Int32 → SG → Option (Unit × SG) := itF (fun _ _ _ => none) (m_X9_send_B23 ) n
def m_X9_send_B2 (rec2 : Option Nat → Int32 → SG → Option (Unit × SG)) (v0 : Option Nat) (v1 : Int32) (σ : SG) : Option (Unit × SG) :=
  if (6 : Int32) ≤ v1 then (
    m_X9_send_L23 1000 v0 ((0 : Int32)) σ
  ) else (
    (sGetR v0 8 5 σ).bind fun x47 =>
    (sAst x47 1 v1 (0 : Int32) σ).bind fun σ48 =>
    rec2 v0 ((v1 + 1)) σ48
  )
def m_X9_send_L2 (n : Nat) : Option Nat → Int32 → SG → Option (Unit × SG) := itF (fun _ _ _ => none) (m_X9_send_B2 ) n
def m_X9_send (a0 : Option Nat) (σ : SG) : Option (Unit × SG) :=
  m_X9_send_L2 1000 a0 ((0 : Int32)) σ
def rmX9_finish : Room := { frames := 0, cells := 0, slots := 0, locals := 0 }
def m_X9_finish_B11 (rec11 : Option Nat → Int32 → Int32 → SG → Option (Unit × SG)) (v0 : Option Nat) (v1 : Int32) (v2 : Int32) (σ : SG) : Option (Unit × SG) :=
  if (5 : Int32) ≤ v2 then (
    (sGetR v0 8 0 σ).bind fun x2 =>
    (sAld x2 1 (v1 + (3 : Int32)) σ).bind fun x3 =>
    (sAst x2 1 (v1 + (3 : Int32)) (x3 - (1 : Int32)) σ).bind fun σ4 =>
    (sGetR v0 8 0 σ4).bind fun x5 =>
    (sAld x5 1 (5 : Int32) σ4).bind fun x6 =>
    (sAst x5 1 (5 : Int32) (x6 + (1 : Int32)) σ4).bind fun σ7 =>
    some ((), σ7)
  ) else (
    (sGetR v0 8 0 σ).bind fun x8 =>
    (sGetR v0 8 0 σ).bind fun x9 =>
    (sAld x9 1 (((v1 + (8 : Int32)) + v2) + (1 : Int32)) σ).bind fun x10 =>
    (sAst x8 1 ((v1 + (8 : Int32)) + v2) x10 σ).bind fun σ11 =>
    rec11 v0 v1 ((v2 + 1)) σ11
  )
def m_X9_finish_L11 (n : Nat) : Option Nat → Int32 → Int32 → SG → Option (Unit × SG) := itF (fun _ _ _ _ => none) (m_X9_finish_B11 ) n
def m_X9_finish (a0 : Option Nat) (a1 : Int32) (σ : SG) : Option (Unit × SG) :=
  (sGetR a0 8 0 σ).bind fun x12 =>
  (sAst x12 1 (a1 + (4 : Int32)) (0 : Int32) σ).bind fun σ13 =>
  m_X9_finish_L11 1000 a0 a1 ((0 : Int32)) σ13
def rmX9_goOn : Room := { frames := 1, cells := 0, slots := 0, locals := 22 }
def m_X9_goOn_b80 (v0 : Option Nat) (v2 : Int32) (σ : SG) : Option (Unit × SG) :=
  (sGetR v0 8 0 σ).bind fun x1 =>
  (sAld x1 1 (v2 + (6 : Int32)) σ).bind fun x2 =>
  (sAst x1 1 (v2 + (6 : Int32)) (x2 + (1 : Int32)) σ).bind fun σ3 =>
  (sGetR v0 8 0 σ3).bind fun x4 =>
  (sAld x4 1 (v2 + (6 : Int32)) σ3).bind fun x5 =>
  if x5 = (17 : Int32) then (
    (sGetR v0 8 0 σ3).bind fun x7 =>
    (sAst x7 1 (v2 + (6 : Int32)) (0 : Int32) σ3).bind fun σ8 =>
    (sGetR v0 8 0 σ8).bind fun x9 =>
    (sAld x9 1 (v2 + (5 : Int32)) σ8).bind fun x10 =>
    (sAst x9 1 (v2 + (5 : Int32)) (x10 + (1 : Int32)) σ8).bind fun σ11 =>
    (sGetR v0 8 0 σ11).bind fun x12 =>
    (sAld x12 1 (v2 + (5 : Int32)) σ11).bind fun x13 =>
    (sGetR v0 8 0 σ11).bind fun x14 =>
    (sAld x14 1 (3 : Int32) σ11).bind fun x15 =>
    if x13 < x15 then (
      some ((), σ11)
    ) else (
      (sObj v0 8 σ11).bind fun _ =>
      bnd (m_X9_finish v0 v2 σ11) fun _ σ17 =>
      some ((), σ17)
    )
  ) else (
    some ((), σ3)
  )
def m_X9_goOn (a0 : Option Nat) (a1 : Int32) (σ : SG) : Option (Unit × SG) :=
  bnd (m_X9_n a1 σ) fun r18 σ19 =>
  (sGetR a0 8 0 σ19).bind fun x20 =>
  (sAld x20 1 (r18 + (6 : Int32)) σ19).bind fun x21 =>
  if (14 : Int32) ≤ x21 then (
    m_X9_goOn_b80 a0 r18 σ19
  ) else (
    (sGetR a0 8 6 σ19).bind fun x23 =>
    (sAld x23 1 a1 σ19).bind fun x24 =>
    if x24 = 0 then (
      (sGetR a0 8 5 σ19).bind fun x26 =>
      (sGetR a0 8 0 σ19).bind fun x27 =>
      (sAld x27 1 (r18 + (1 : Int32)) σ19).bind fun x28 =>
      (sAld x26 1 x28 σ19).bind fun x29 =>
      if x29 = (1 : Int32) then (
        (sGetR a0 8 0 σ19).bind fun x31 =>
        (sAst x31 1 (r18 + (4 : Int32)) (0 : Int32) σ19).bind fun σ32 =>
        (sGetR a0 8 0 σ32).bind fun x33 =>
        (sAst x33 1 (r18 + (7 : Int32)) ((3 : Int32) + ((2 : Int32) * a1)) σ32).bind fun σ34 =>
        (sGetR a0 8 0 σ34).bind fun x35 =>
        (sAld x35 1 (6 : Int32) σ34).bind fun x36 =>
        (sAst x35 1 (6 : Int32) (x36 + (1 : Int32)) σ34).bind fun σ37 =>
        some ((), σ37)
      ) else (
        m_X9_goOn_b80 a0 r18 σ19
      )
    ) else (
      m_X9_goOn_b80 a0 r18 σ19
    )
  )
def rmX9_isOf : Room := { frames := 2, cells := 0, slots := 0, locals := 43 }
def m_X9_isOf (a0 : Option Nat) (a1 : Int32) (a2 : Int32) (a3 : Int32) (σ : SG) : Option (Int32 × SG) :=
  (sObj a0 8 σ).bind fun _ =>
  bnd (m_X9_isLamp a0 a1 σ) fun r1 σ2 =>
  if r1 = 0 then (
    chkZ (0 : Int32) σ2
  ) else (
    (sGetR a0 8 0 σ2).bind fun x4 =>
    bnd (m_X9_l a1 σ2) fun r5 σ6 =>
    (sAld x4 1 (r5 + (1 : Int32)) σ6).bind fun x7 =>
    if x7 = a2 then (
      (sGetR a0 8 0 σ6).bind fun x9 =>
      bnd (m_X9_l a1 σ6) fun r10 σ11 =>
      (sAld x9 1 (r10 + (2 : Int32)) σ11).bind fun x12 =>
      if x12 = a3 then (
        chkZ (1 : Int32) σ11
      ) else (
        chkZ (0 : Int32) σ11
      )
    ) else (
      chkZ (0 : Int32) σ6
    )
  )
def rmX9_act : Room := { frames := 3, cells := 0, slots := 0, locals := 66 }
def m_X9_act_b273 (s0 : Option Nat) (s1 : Int32) (s2 : Int32) (σ : SG) : Option (Unit × SG) :=
  (sAst s0 1 s1 s2 σ).bind fun σ1 =>
  some ((), σ1)
def m_X9_act_b218 (rec46 : Option Nat → Int32 → Int32 → Int32 → Int32 → Int32 → SG → Option (Unit × SG)) (v0 : Option Nat) (v1 : Int32) (v3 : Int32) (v4 : Int32) (v5 : Int32) (v6 : Int32) (σ : SG) : Option (Unit × SG) :=
  rec46 v0 v1 v3 v4 v5 ((v6 + 1)) σ
def m_X9_act_b217 (rec46 : Option Nat → Int32 → Int32 → Int32 → Int32 → Int32 → SG → Option (Unit × SG)) (v0 : Option Nat) (v1 : Int32) (v3 : Int32) (v4 : Int32) (v5 : Int32) (v6 : Int32) (s0 : Option Nat) (s1 : Int32) (s2 : Int32) (σ : SG) : Option (Unit × SG) :=
  (sAst s0 1 s1 s2 σ).bind fun σ2 =>
  m_X9_act_b218 rec46 v0 v1 v3 v4 v5 v6 σ2
def m_X9_act_b121 (rec46 : Option Nat → Int32 → Int32 → Int32 → Int32 → Int32 → SG → Option (Unit × SG)) (v0 : Option Nat) (v1 : Int32) (v3 : Int32) (v4 : Int32) (v5 : Int32) (v6 : Int32) (s0 : Option Nat) (s1 : Int32) (s2 : Int32) (σ : SG) : Option (Unit × SG) :=
  (sAst s0 1 s1 s2 σ).bind fun σ3 =>
  m_X9_act_b218 rec46 v0 v1 v3 v4 v5 v6 σ3
def m_X9_act_B46 (rec46 : Option Nat → Int32 → Int32 → Int32 → Int32 → Int32 → SG → Option (Unit × SG)) (v0 : Option Nat) (v1 : Int32) (v3 : Int32) (v4 : Int32) (v5 : Int32) (v6 : Int32) (σ : SG) : Option (Unit × SG) :=
  if (8 : Int32) ≤ v6 then (
    (sGetR v0 8 0 σ).bind fun x5 =>
    bnd (m_X9_r v1 σ) fun r6 σ7 =>
    (sAld x5 1 (r6 + (6 : Int32)) σ7).bind fun x8 =>
    (sGetR v0 8 0 σ7).bind fun x9 =>
    bnd (m_X9_r v1 σ7) fun r10 σ11 =>
    if (4 : Int32) ≤ v4 then (
      m_X9_act_b273 x9 ((r10 + (6 : Int32))) ((x8 &&& ((15 : Int32) - ((1 : Int32) <<< (v3 &&& 31))))) σ11
    ) else (
      m_X9_act_b273 x9 ((r10 + (6 : Int32))) (((x8 &&& ((15 : Int32) - ((1 : Int32) <<< (v3 &&& 31)))) ||| ((1 : Int32) <<< (v3 &&& 31)))) σ11
    )
  ) else (
    bnd (m_X9_l v6 σ) fun r13 σ14 =>
    (sObj v0 8 σ14).bind fun _ =>
    bnd (m_X9_isOf v0 v6 v1 v3 σ14) fun r15 σ16 =>
    if r15 = 0 then (
      m_X9_act_b218 rec46 v0 v1 v3 v4 v5 v6 σ16
    ) else (
      if (4 : Int32) ≤ v4 then (
        if v4 = (7 : Int32) then (
          (sGetR v0 8 0 σ16).bind fun x20 =>
          (sAst x20 1 (r13 + (4 : Int32)) (0 : Int32) σ16).bind fun σ21 =>
          m_X9_act_b218 rec46 v0 v1 v3 v4 v5 v6 σ21
        ) else (
          (sGetR v0 8 0 σ16).bind fun x22 =>
          (sAld x22 1 (r13 + (5 : Int32)) σ16).bind fun x23 =>
          if x23 = (1 : Int32) then (
            (sGetR v0 8 0 σ16).bind fun x25 =>
            if v4 = (4 : Int32) then (
              m_X9_act_b217 rec46 v0 v1 v3 v4 v5 v6 x25 ((r13 + (4 : Int32))) ((9 : Int32)) σ16
            ) else (
              if v4 = (5 : Int32) then (
                m_X9_act_b217 rec46 v0 v1 v3 v4 v5 v6 x25 ((r13 + (4 : Int32))) ((0 : Int32)) σ16
              ) else (
                (sGetR v0 8 0 σ16).bind fun x28 =>
                (sAld x28 1 (r13 + (4 : Int32)) σ16).bind fun x29 =>
                if (9 : Int32) ≤ x29 then (
                  m_X9_act_b217 rec46 v0 v1 v3 v4 v5 v6 x25 ((r13 + (4 : Int32))) ((9 : Int32)) σ16
                ) else (
                  (sGetR v0 8 0 σ16).bind fun x31 =>
                  (sAld x31 1 (r13 + (4 : Int32)) σ16).bind fun x32 =>
                  m_X9_act_b217 rec46 v0 v1 v3 v4 v5 v6 x25 ((r13 + (4 : Int32))) ((x32 + (1 : Int32))) σ16
                )
              )
            )
          ) else (
            m_X9_act_b218 rec46 v0 v1 v3 v4 v5 v6 σ16
          )
        )
      ) else (
        (sGetR v0 8 0 σ16).bind fun x33 =>
        (sGetR v0 8 0 σ16).bind fun x34 =>
        (sAld x34 1 (r13 + (3 : Int32)) σ16).bind fun x35 =>
        if x35 = v4 then (
          m_X9_act_b121 rec46 v0 v1 v3 v4 v5 v6 x33 ((r13 + (5 : Int32))) ((1 : Int32)) σ16
        ) else (
          if v5 = 0 then (
            (sGetR v0 8 0 σ16).bind fun x38 =>
            (sAld x38 1 (r13 + (5 : Int32)) σ16).bind fun x39 =>
            m_X9_act_b121 rec46 v0 v1 v3 v4 v5 v6 x33 ((r13 + (5 : Int32))) x39 σ16
          ) else (
            m_X9_act_b121 rec46 v0 v1 v3 v4 v5 v6 x33 ((r13 + (5 : Int32))) ((0 : Int32)) σ16
          )
        )
      )
    )
  )
def m_X9_act_L46 (n : Nat) : Option Nat → Int32 → Int32 → Int32 → Int32 → Int32 → SG → Option (Unit × SG) := itF (fun _ _ _ _ _ _ _ => none) (m_X9_act_B46 ) n
def m_X9_act_b41 (v0 : Option Nat) (v1 : Int32) (v3 : Int32) (v4 : Int32) (s0 : Int32) (σ : SG) : Option (Unit × SG) :=
  m_X9_act_L46 1000 v0 v1 v3 v4 s0 ((0 : Int32)) σ
def m_X9_act_b40 (v0 : Option Nat) (v1 : Int32) (v3 : Int32) (v4 : Int32) (σ : SG) : Option (Unit × SG) :=
  m_X9_act_b41 v0 v1 v3 v4 ((0 : Int32)) σ
def m_X9_act (a0 : Option Nat) (a1 : Int32) (a2 : Int32) (σ : SG) : Option (Unit × SG) :=
  if (8 : Int32) = 0 then none else
  if (8 : Int32) = 0 then none else
  if (4 : Int32) ≤ (a2 - a2 / (8 : Int32) * (8 : Int32)) then (
    m_X9_act_b40 a0 a1 ((a2 / (8 : Int32))) ((a2 - a2 / (8 : Int32) * (8 : Int32))) σ
  ) else (
    (sGetR a0 8 0 σ).bind fun x41 =>
    bnd (m_X9_r a1 σ) fun r42 σ43 =>
    (sAld x41 1 (r42 + (6 : Int32)) σ43).bind fun x44 =>
    if ((x44 >>> ((a2 / (8 : Int32)) &&& 31)) &&& (1 : Int32)) = 0 then (
      m_X9_act_b41 a0 a1 ((a2 / (8 : Int32))) ((a2 - a2 / (8 : Int32) * (8 : Int32))) ((1 : Int32)) σ43
    ) else (
      m_X9_act_b40 a0 a1 ((a2 / (8 : Int32))) ((a2 - a2 / (8 : Int32) * (8 : Int32))) σ43
    )
  )
def rmX9_tell : Room := { frames := 4, cells := 0, slots := 0, locals := 93 }
def m_X9_tell_b81 (v0 : Option Nat) (v3 : Int32) (σ : SG) : Option (Unit × SG) :=
  (sGetR v0 8 0 σ).bind fun x1 =>
  (sGetR v0 8 0 σ).bind fun x2 =>
  (sAld x2 1 (4 : Int32) σ).bind fun x3 =>
  (sAst x1 1 (v3 + (5 : Int32)) x3 σ).bind fun σ4 =>
  some ((), σ4)
def m_X9_tell_b53 (v0 : Option Nat) (v1 : Int32) (v2 : Int32) (v3 : Int32) (σ : SG) : Option (Unit × SG) :=
  (sGetR v0 8 0 σ).bind fun x5 =>
  (sAld x5 1 (7 : Int32) σ).bind fun x6 =>
  (sAst x5 1 (7 : Int32) (x6 + (1 : Int32)) σ).bind fun σ7 =>
  (sGetR v0 8 0 σ7).bind fun x8 =>
  (sAst x8 1 (v3 + (4 : Int32)) (v2 + (1 : Int32)) σ7).bind fun σ9 =>
  (sObj v0 8 σ9).bind fun _ =>
  bnd (m_X9_act v0 v1 v2 σ9) fun _ σ10 =>
  m_X9_tell_b81 v0 v3 σ10
def m_X9_tell (a0 : Option Nat) (a1 : Int32) (a2 : Int32) (σ : SG) : Option (Unit × SG) :=
  bnd (m_X9_r a1 σ) fun r11 σ12 =>
  (sGetR a0 8 0 σ12).bind fun x13 =>
  (sAld x13 1 (r11 + (4 : Int32)) σ12).bind fun x14 =>
  if x14 = (a2 + (1 : Int32)) then (
    (sGetR a0 8 0 σ12).bind fun x16 =>
    (sAld x16 1 (4 : Int32) σ12).bind fun x17 =>
    (sGetR a0 8 0 σ12).bind fun x18 =>
    (sAld x18 1 (r11 + (5 : Int32)) σ12).bind fun x19 =>
    if (17 : Int32) < (x17 - x19) then (
      m_X9_tell_b53 a0 a1 a2 r11 σ12
    ) else (
      (sGetR a0 8 0 σ12).bind fun x21 =>
      (sAld x21 1 (8 : Int32) σ12).bind fun x22 =>
      (sAst x21 1 (8 : Int32) (x22 + (1 : Int32)) σ12).bind fun σ23 =>
      m_X9_tell_b81 a0 r11 σ23
    )
  ) else (
    m_X9_tell_b53 a0 a1 a2 r11 σ12
  )
def rmX9_listenAgain : Room := { frames := 0, cells := 0, slots := 0, locals := 0 }
def m_X9_listenAgain (a0 : Option Nat) (a1 : Int32) (σ : SG) : Option (Unit × SG) :=
  (sGetR a0 8 0 σ).bind fun x1 =>
  (sAst x1 1 (a1 + (0 : Int32)) (0 : Int32) σ).bind fun σ2 =>
  (sGetR a0 8 0 σ2).bind fun x3 =>
  (sAst x3 1 (a1 + (1 : Int32)) (0 : Int32) σ2).bind fun σ4 =>
  (sGetR a0 8 0 σ4).bind fun x5 =>
  (sAst x5 1 (a1 + (2 : Int32)) (0 : Int32) σ4).bind fun σ6 =>
  (sGetR a0 8 0 σ6).bind fun x7 =>
  (sAst x7 1 (a1 + (3 : Int32)) (0 : Int32) σ6).bind fun σ8 =>
  some ((), σ8)
def rmX9_take : Room := { frames := 5, cells := 0, slots := 0, locals := 116 }
def m_X9_take_B179 (rec179 : Option Nat → Int32 → Int32 → Int32 → Int32 → SG → Option (Unit × SG)) (v0 : Option Nat) (v1 : Int32) (v2 : Int32) (v4 : Int32) (v5 : Int32) (σ : SG) : Option (Unit × SG) :=
  if (5 : Int32) ≤ v5 then (
    (sObj v0 8 σ).bind fun _ =>
    bnd (m_X9_tell v0 v1 v4 σ) fun _ σ2 =>
    (sObj v0 8 σ2).bind fun _ =>
    bnd (m_X9_listenAgain v0 v2 σ2) fun _ σ3 =>
    some ((), σ3)
  ) else (
    (sGetR v0 8 0 σ).bind fun x4 =>
    (sAld x4 1 (v2 + (3 : Int32)) σ).bind fun x5 =>
    rec179 v0 v1 v2 ((((2 : Int32) * v4) + ((x5 >>> (((9 : Int32) - ((2 : Int32) * v5)) &&& 31)) &&& (1 : Int32)))) ((v5 + 1)) σ
  )
def m_X9_take_L179 (n : Nat) : Option Nat → Int32 → Int32 → Int32 → Int32 → SG → Option (Unit × SG) := itF (fun _ _ _ _ _ _ => none) (m_X9_take_B179 ) n
def m_X9_take_b160 (v0 : Option Nat) (v1 : Int32) (v2 : Int32) (σ : SG) : Option (Unit × SG) :=
  (sGetR v0 8 0 σ).bind fun x6 =>
  (sAld x6 1 (v2 + (2 : Int32)) σ).bind fun x7 =>
  if x7 = (10 : Int32) then (
    m_X9_take_L179 1000 v0 v1 v2 ((0 : Int32)) ((0 : Int32)) σ
  ) else (
    some ((), σ)
  )
def m_X9_take_b141 (v0 : Option Nat) (v2 : Int32) (σ : SG) : Option (Unit × SG) :=
  (sGetR v0 8 0 σ).bind fun x9 =>
  (sAld x9 1 (9 : Int32) σ).bind fun x10 =>
  (sAst x9 1 (9 : Int32) (x10 + (1 : Int32)) σ).bind fun σ11 =>
  (sObj v0 8 σ11).bind fun _ =>
  bnd (m_X9_listenAgain v0 v2 σ11) fun _ σ12 =>
  some ((), σ12)
def m_X9_take_b69 (s0 : Option Nat) (s1 : Int32) (s2 : Int32) (σ : SG) : Option (Unit × SG) :=
  (sAst s0 1 s1 s2 σ).bind fun σ13 =>
  some ((), σ13)
def m_X9_take (a0 : Option Nat) (a1 : Int32) (σ : SG) : Option (Unit × SG) :=
  bnd (m_X9_r a1 σ) fun r14 σ15 =>
  (sGetR a0 8 0 σ15).bind fun x16 =>
  (sAld x16 1 (r14 + (0 : Int32)) σ15).bind fun x17 =>
  if x17 = 0 then (
    (sGetR a0 8 0 σ15).bind fun x19 =>
    (sGetR a0 8 0 σ15).bind fun x20 =>
    (sAld x20 1 (r14 + (1 : Int32)) σ15).bind fun x21 =>
    if (16 : Int32) = 0 then none else
    (sGetR a0 8 5 σ15).bind fun x22 =>
    (sAld x22 1 a1 σ15).bind fun x23 =>
    (sAst x19 1 (r14 + (1 : Int32)) (((x21 * (2 : Int32)) - (x21 * (2 : Int32)) / (16 : Int32) * (16 : Int32)) + x23) σ15).bind fun σ24 =>
    (sGetR a0 8 0 σ24).bind fun x25 =>
    (sGetR a0 8 0 σ24).bind fun x26 =>
    (sAld x26 1 (r14 + (1 : Int32)) σ24).bind fun x27 =>
    if x27 = (14 : Int32) then (
      m_X9_take_b69 x25 ((r14 + (0 : Int32))) ((1 : Int32)) σ24
    ) else (
      m_X9_take_b69 x25 ((r14 + (0 : Int32))) ((0 : Int32)) σ24
    )
  ) else (
    (sGetR a0 8 0 σ15).bind fun x29 =>
    (sAld x29 1 (r14 + (2 : Int32)) σ15).bind fun x30 =>
    (sAst x29 1 (r14 + (2 : Int32)) (x30 + (1 : Int32)) σ15).bind fun σ31 =>
    (sGetR a0 8 0 σ31).bind fun x32 =>
    (sGetR a0 8 0 σ31).bind fun x33 =>
    (sAld x33 1 (r14 + (3 : Int32)) σ31).bind fun x34 =>
    (sGetR a0 8 5 σ31).bind fun x35 =>
    (sAld x35 1 a1 σ31).bind fun x36 =>
    (sAst x32 1 (r14 + (3 : Int32)) (((2 : Int32) * x34) + x36) σ31).bind fun σ37 =>
    (sGetR a0 8 0 σ37).bind fun x38 =>
    (sAld x38 1 (r14 + (3 : Int32)) σ37).bind fun x39 =>
    if (4 : Int32) = 0 then none else
    (sGetR a0 8 0 σ37).bind fun x40 =>
    (sAld x40 1 (r14 + (2 : Int32)) σ37).bind fun x41 =>
    if (2 : Int32) = 0 then none else
    if (x41 - x41 / (2 : Int32) * (2 : Int32)) = 0 then (
      if (x39 - x39 / (4 : Int32) * (4 : Int32)) = 0 then (
        m_X9_take_b141 a0 r14 σ37
      ) else (
        if (x39 - x39 / (4 : Int32) * (4 : Int32)) = (3 : Int32) then (
          m_X9_take_b141 a0 r14 σ37
        ) else (
          m_X9_take_b160 a0 a1 r14 σ37
        )
      )
    ) else (
      m_X9_take_b160 a0 a1 r14 σ37
    )
  )
def rmX9_beat : Room := { frames := 6, cells := 0, slots := 0, locals := 141 }
def m_X9_beat_B51 (rec51 : Option Nat → Int32 → SG → Option (Unit × SG)) (v0 : Option Nat) (v1 : Int32) (σ : SG) : Option (Unit × SG) :=
  if (6 : Int32) ≤ v1 then (
    (sGetR v0 8 0 σ).bind fun x2 =>
    (sAld x2 1 (4 : Int32) σ).bind fun x3 =>
    (sAst x2 1 (4 : Int32) (x3 + (1 : Int32)) σ).bind fun σ4 =>
    some ((), σ4)
  ) else (
    (sObj v0 8 σ).bind fun _ =>
    bnd (m_X9_take v0 v1 σ) fun _ σ5 =>
    rec51 v0 ((v1 + 1)) σ5
  )
def m_X9_beat_L51 (n : Nat) : Option Nat → Int32 → SG → Option (Unit × SG) := itF (fun _ _ _ => none) (m_X9_beat_B51 ) n
def m_X9_beat_b43 (rec10 : Option Nat → Int32 → SG → Option (Unit × SG)) (v0 : Option Nat) (v1 : Int32) (σ : SG) : Option (Unit × SG) :=
  rec10 v0 ((v1 + 1)) σ
def m_X9_beat_B10 (rec10 : Option Nat → Int32 → SG → Option (Unit × SG)) (v0 : Option Nat) (v1 : Int32) (σ : SG) : Option (Unit × SG) :=
  if (5 : Int32) ≤ v1 then (
    m_X9_beat_L51 1000 v0 ((0 : Int32)) σ
  ) else (
    (sObj v0 8 σ).bind fun _ =>
    bnd (m_X9_isSender v0 v1 σ) fun r7 σ8 =>
    if r7 = 0 then (
      m_X9_beat_b43 rec10 v0 v1 σ8
    ) else (
      (sGetR v0 8 0 σ8).bind fun x10 =>
      bnd (m_X9_n v1 σ8) fun r11 σ12 =>
      (sAld x10 1 (r11 + (4 : Int32)) σ12).bind fun x13 =>
      if x13 = (1 : Int32) then (
        (sObj v0 8 σ12).bind fun _ =>
        bnd (m_X9_goOn v0 v1 σ12) fun _ σ15 =>
        m_X9_beat_b43 rec10 v0 v1 σ15
      ) else (
        m_X9_beat_b43 rec10 v0 v1 σ12
      )
    )
  )
def m_X9_beat_L10 (n : Nat) : Option Nat → Int32 → SG → Option (Unit × SG) := itF (fun _ _ _ => none) (m_X9_beat_B10 ) n
def m_X9_beat (a0 : Option Nat) (σ : SG) : Option (Unit × SG) :=
  (sObj a0 8 σ).bind fun _ =>
  bnd (m_X9_begin a0 σ) fun _ σ16 =>
  (sObj a0 8 σ16).bind fun _ =>
  bnd (m_X9_send a0 σ16) fun _ σ17 =>
  m_X9_beat_L10 1000 a0 ((0 : Int32)) σ17
def rmX9_says : Room := { frames := 2, cells := 0, slots := 0, locals := 43 }
def m_X9_says (a0 : Option Nat) (a1 : Int32) (a2 : Int32) (σ : SG) : Option (Int32 × SG) :=
  (sObj a0 8 σ).bind fun _ =>
  bnd (m_X9_isSender a0 a1 σ) fun r1 σ2 =>
  if r1 = 0 then (
    some ((-1 : Int32), σ2)
  ) else (
    bnd (m_X9_in a2 (0 : Int32) (31 : Int32) σ2) fun r4 σ5 =>
    if r4 = 0 then (
      some ((-2 : Int32), σ5)
    ) else (
      bnd (m_X9_n a1 σ5) fun r7 σ8 =>
      (sGetR a0 8 0 σ8).bind fun x9 =>
      (sAld x9 1 (r7 + (3 : Int32)) σ8).bind fun x10 =>
      if x10 = (6 : Int32) then (
        some ((-3 : Int32), σ8)
      ) else (
        (sGetR a0 8 0 σ8).bind fun x12 =>
        (sGetR a0 8 0 σ8).bind fun x13 =>
        (sAld x13 1 (r7 + (3 : Int32)) σ8).bind fun x14 =>
        (sAst x12 1 ((r7 + (8 : Int32)) + x14) a2 σ8).bind fun σ15 =>
        (sGetR a0 8 0 σ15).bind fun x16 =>
        (sAld x16 1 (r7 + (3 : Int32)) σ15).bind fun x17 =>
        (sAst x16 1 (r7 + (3 : Int32)) (x17 + (1 : Int32)) σ15).bind fun σ18 =>
        (sGetR a0 8 0 σ18).bind fun x19 =>
        (sAld x19 1 (r7 + (3 : Int32)) σ18).bind fun x20 =>
        some (x20, σ18)
      )
    )
  )
def rmX9_passes : Room := { frames := 7, cells := 0, slots := 0, locals := 162 }
def m_X9_passes_B23 (rec23 : Option Nat → Int32 → Int32 → Int32 → SG → Option (Int32 × SG)) (v0 : Option Nat) (v1 : Int32) (v2 : Int32) (v3 : Int32) (σ : SG) : Option (Int32 × SG) :=
  if v1 ≤ v3 then (
    (sGetR v0 8 0 σ).bind fun x2 =>
    (sAld x2 1 (7 : Int32) σ).bind fun x3 =>
    some ((x3 - v2), σ)
  ) else (
    (sObj v0 8 σ).bind fun _ =>
    bnd (m_X9_beat v0 σ) fun _ σ4 =>
    rec23 v0 v1 v2 ((v3 + 1)) σ4
  )
def m_X9_passes_L23 (n : Nat) : Option Nat → Int32 → Int32 → Int32 → SG → Option (Int32 × SG) := itF (fun _ _ _ _ _ => none) (m_X9_passes_B23 ) n
def m_X9_passes (a0 : Option Nat) (a1 : Int32) (σ : SG) : Option (Int32 × SG) :=
  bnd (m_X9_in a1 (1 : Int32) (99 : Int32) σ) fun r5 σ6 =>
  if r5 = 0 then (
    some ((-2 : Int32), σ6)
  ) else (
    (sGetR a0 8 0 σ6).bind fun x8 =>
    (sAld x8 1 (7 : Int32) σ6).bind fun x9 =>
    m_X9_passes_L23 1000 a0 a1 x9 ((0 : Int32)) σ6
  )
def rmX9_free : Room := { frames := 0, cells := 0, slots := 0, locals := 0 }
def m_X9_free_B3 (rec3 : Option Nat → Int32 → Int32 → Int32 → Int32 → SG → Option (Int32 × SG)) (v0 : Option Nat) (v1 : Int32) (v2 : Int32) (v3 : Int32) (v4 : Int32) (σ : SG) : Option (Int32 × SG) :=
  if v3 ≤ v4 then (
    some (v4, σ)
  ) else (
    (sGetR v0 8 0 σ).bind fun x2 =>
    (sAld x2 1 (v1 + (v2 * v4)) σ).bind fun x3 =>
    if x3 = (1 : Int32) then (
      rec3 v0 v1 v2 v3 ((v4 + 1)) σ
    ) else (
      some (v4, σ)
    )
  )
def m_X9_free_L3 (n : Nat) : Option Nat → Int32 → Int32 → Int32 → Int32 → SG → Option (Int32 × SG) := itF (fun _ _ _ _ _ _ => none) (m_X9_free_B3 ) n
def m_X9_free (a0 : Option Nat) (a1 : Int32) (a2 : Int32) (a3 : Int32) (σ : SG) : Option (Int32 × SG) :=
  m_X9_free_L3 1000 a0 a1 a2 a3 ((0 : Int32)) σ
def rmX9_put : Room := { frames := 0, cells := 0, slots := 0, locals := 0 }
def m_X9_put_B3 (rec3 : Option Nat → Int32 → Int32 → Int32 → Int32 → Int32 → Int32 → SG → Option (Unit × SG)) (v0 : Option Nat) (v1 : Int32) (v2 : Int32) (v3 : Int32) (v4 : Int32) (v5 : Int32) (v6 : Int32) (σ : SG) : Option (Unit × SG) :=
  if v2 ≤ v6 then (
    (sGetR v0 8 0 σ).bind fun x2 =>
    (sAst x2 1 v1 (1 : Int32) σ).bind fun σ3 =>
    (sGetR v0 8 0 σ3).bind fun x4 =>
    (sAst x4 1 (v1 + (1 : Int32)) v3 σ3).bind fun σ5 =>
    (sGetR v0 8 0 σ5).bind fun x6 =>
    (sAst x6 1 (v1 + (2 : Int32)) v4 σ5).bind fun σ7 =>
    (sGetR v0 8 0 σ7).bind fun x8 =>
    (sAst x8 1 (v1 + (3 : Int32)) v5 σ7).bind fun σ9 =>
    some ((), σ9)
  ) else (
    (sGetR v0 8 0 σ).bind fun x10 =>
    (sAst x10 1 (v1 + v6) (0 : Int32) σ).bind fun σ11 =>
    rec3 v0 v1 v2 v3 v4 v5 ((v6 + 1)) σ11
  )
def m_X9_put_L3 (n : Nat) : Option Nat → Int32 → Int32 → Int32 → Int32 → Int32 → Int32 → SG → Option (Unit × SG) := itF (fun _ _ _ _ _ _ _ _ => none) (m_X9_put_B3 ) n
def m_X9_put (a0 : Option Nat) (a1 : Int32) (a2 : Int32) (a3 : Int32) (a4 : Int32) (a5 : Int32) (σ : SG) : Option (Unit × SG) :=
  m_X9_put_L3 1000 a0 a1 a2 a3 a4 a5 ((0 : Int32)) σ
def rmX9_sender : Room := { frames := 2, cells := 0, slots := 0, locals := 42 }
def m_X9_sender (a0 : Option Nat) (a1 : Int32) (a2 : Int32) (σ : SG) : Option (Int32 × SG) :=
  bnd (m_X9_isWire a1 σ) fun r1 σ2 =>
  if r1 = 0 then (
    some ((-1 : Int32), σ2)
  ) else (
    bnd (m_X9_in a2 (1 : Int32) (9 : Int32) σ2) fun r4 σ5 =>
    if r4 = 0 then (
      some ((-2 : Int32), σ5)
    ) else (
      (sObj a0 8 σ5).bind fun _ =>
      bnd (m_X9_free a0 (10 : Int32) (14 : Int32) (5 : Int32) σ5) fun r7 σ8 =>
      if r7 = (5 : Int32) then (
        some ((-3 : Int32), σ8)
      ) else (
        (sObj a0 8 σ8).bind fun _ =>
        bnd (m_X9_hold a0 σ8) fun _ σ10 =>
        bnd (m_X9_n r7 σ10) fun r11 σ12 =>
        (sObj a0 8 σ12).bind fun _ =>
        bnd (m_X9_put a0 r11 (14 : Int32) a1 a2 (0 : Int32) σ12) fun _ σ13 =>
        (sObj a0 8 σ13).bind fun _ =>
        bnd (m_X9_recorded a0 r7 σ13) fun r14 σ15 =>
        some (r14, σ15)
      )
    )
  )
def rmX9_machine : Room := { frames := 2, cells := 0, slots := 0, locals := 42 }
def m_X9_machine (a0 : Option Nat) (a1 : Int32) (a2 : Int32) (a3 : Int32) (σ : SG) : Option (Int32 × SG) :=
  bnd (m_X9_isWire a1 σ) fun r1 σ2 =>
  if r1 = 0 then (
    some ((-1 : Int32), σ2)
  ) else (
    bnd (m_X9_in a2 (1 : Int32) (9 : Int32) σ2) fun r4 σ5 =>
    if r4 = 0 then (
      some ((-2 : Int32), σ5)
    ) else (
      bnd (m_X9_in a3 (2 : Int32) (20 : Int32) σ5) fun r7 σ8 =>
      if r7 = 0 then (
        some ((-2 : Int32), σ8)
      ) else (
        (sObj a0 8 σ8).bind fun _ =>
        bnd (m_X9_free a0 (80 : Int32) (5 : Int32) (4 : Int32) σ8) fun r10 σ11 =>
        if r10 = (4 : Int32) then (
          some ((-3 : Int32), σ11)
        ) else (
          (sObj a0 8 σ11).bind fun _ =>
          bnd (m_X9_hold a0 σ11) fun _ σ13 =>
          bnd (m_X9_m r10 σ13) fun r14 σ15 =>
          (sObj a0 8 σ15).bind fun _ =>
          bnd (m_X9_put a0 r14 (5 : Int32) a1 a2 a3 σ15) fun _ σ16 =>
          (sGetR a0 8 0 σ16).bind fun x17 =>
          bnd (m_X9_m r10 σ16) fun r18 σ19 =>
          (sAst x17 1 (r18 + (4 : Int32)) (1 : Int32) σ19).bind fun σ20 =>
          (sObj a0 8 σ20).bind fun _ =>
          bnd (m_X9_recorded a0 r10 σ20) fun r21 σ22 =>
          some (r21, σ22)
        )
      )
    )
  )
def rmX9_lamp : Room := { frames := 2, cells := 0, slots := 0, locals := 42 }
def m_X9_lamp (a0 : Option Nat) (a1 : Int32) (a2 : Int32) (a3 : Int32) (σ : SG) : Option (Int32 × SG) :=
  bnd (m_X9_isWire a1 σ) fun r1 σ2 =>
  if r1 = 0 then (
    some ((-1 : Int32), σ2)
  ) else (
    bnd (m_X9_in a2 (0 : Int32) (3 : Int32) σ2) fun r4 σ5 =>
    if r4 = 0 then (
      some ((-2 : Int32), σ5)
    ) else (
      bnd (m_X9_in a3 (0 : Int32) (3 : Int32) σ5) fun r7 σ8 =>
      if r7 = 0 then (
        some ((-2 : Int32), σ8)
      ) else (
        (sObj a0 8 σ8).bind fun _ =>
        bnd (m_X9_free a0 (100 : Int32) (6 : Int32) (8 : Int32) σ8) fun r10 σ11 =>
        if r10 = (8 : Int32) then (
          some ((-3 : Int32), σ11)
        ) else (
          (sObj a0 8 σ11).bind fun _ =>
          bnd (m_X9_hold a0 σ11) fun _ σ13 =>
          bnd (m_X9_l r10 σ13) fun r14 σ15 =>
          (sObj a0 8 σ15).bind fun _ =>
          bnd (m_X9_put a0 r14 (6 : Int32) a1 a2 a3 σ15) fun _ σ16 =>
          (sObj a0 8 σ16).bind fun _ =>
          bnd (m_X9_recorded a0 r10 σ16) fun r17 σ18 =>
          some (r17, σ18)
        )
      )
    )
  )
def rmX9_remove : Room := { frames := 2, cells := 0, slots := 0, locals := 43 }
def m_X9_remove_b80 (v0 : Option Nat) (s0 : Int32) (σ : SG) : Option (Int32 × SG) :=
  (sGetR v0 8 0 σ).bind fun x1 =>
  (sAld x1 1 (s0 + (1 : Int32)) σ).bind fun x2 =>
  (sGetR v0 8 0 σ).bind fun x3 =>
  (sAst x3 1 s0 (0 : Int32) σ).bind fun σ4 =>
  (sObj v0 8 σ4).bind fun _ =>
  bnd (m_X9_recorded v0 x2 σ4) fun r5 σ6 =>
  some (r5, σ6)
def m_X9_remove_b42 (v0 : Option Nat) (v1 : Int32) (v2 : Int32) (s0 : Int32) (σ : SG) : Option (Int32 × SG) :=
  if s0 = 0 then (
    some ((-1 : Int32), σ)
  ) else (
    (sObj v0 8 σ).bind fun _ =>
    bnd (m_X9_hold v0 σ) fun _ σ8 =>
    if v1 = 0 then (
      bnd (m_X9_n v2 σ8) fun r10 σ11 =>
      m_X9_remove_b80 v0 r10 σ11
    ) else (
      if v1 = (1 : Int32) then (
        bnd (m_X9_m v2 σ8) fun r13 σ14 =>
        m_X9_remove_b80 v0 r13 σ14
      ) else (
        bnd (m_X9_l v2 σ8) fun r15 σ16 =>
        m_X9_remove_b80 v0 r15 σ16
      )
    )
  )
def m_X9_remove (a0 : Option Nat) (a1 : Int32) (a2 : Int32) (σ : SG) : Option (Int32 × SG) :=
  bnd (m_X9_in a1 (0 : Int32) (2 : Int32) σ) fun r17 σ18 =>
  if r17 = 0 then (
    some ((-2 : Int32), σ18)
  ) else (
    if a1 = 0 then (
      (sObj a0 8 σ18).bind fun _ =>
      bnd (m_X9_isSender a0 a2 σ18) fun r21 σ22 =>
      m_X9_remove_b42 a0 a1 a2 r21 σ22
    ) else (
      if a1 = (1 : Int32) then (
        (sObj a0 8 σ18).bind fun _ =>
        bnd (m_X9_isMachine a0 a2 σ18) fun r24 σ25 =>
        m_X9_remove_b42 a0 a1 a2 r24 σ25
      ) else (
        (sObj a0 8 σ18).bind fun _ =>
        bnd (m_X9_isLamp a0 a2 σ18) fun r26 σ27 =>
        m_X9_remove_b42 a0 a1 a2 r26 σ27
      )
    )
  )
def rmX9_say : Room := { frames := 3, cells := 0, slots := 0, locals := 66 }
def m_X9_say (a0 : Option Nat) (a1 : Int32) (a2 : Int32) (σ : SG) : Option (Int32 × SG) :=
  (sObj a0 8 σ).bind fun _ =>
  bnd (m_X9_hold a0 σ) fun _ σ1 =>
  (sObj a0 8 σ1).bind fun _ =>
  bnd (m_X9_says a0 a1 a2 σ1) fun r2 σ3 =>
  if 0 ≤ r2 then (
    (sObj a0 8 σ3).bind fun _ =>
    bnd (m_X9_recorded a0 r2 σ3) fun r5 σ6 =>
    some (r5, σ6)
  ) else (
    some (r2, σ3)
  )
def rmX9_run : Room := { frames := 2, cells := 0, slots := 0, locals := 43 }
def m_X9_run_b45 (v0 : Option Nat) (v3 : Int32) (s0 : Option Nat) (s1 : Int32) (s2 : Int32) (σ : SG) : Option (Int32 × SG) :=
  (sAst s0 1 s1 s2 σ).bind fun σ1 =>
  (sObj v0 8 σ1).bind fun _ =>
  bnd (m_X9_recorded v0 v3 σ1) fun r2 σ3 =>
  some (r2, σ3)
def m_X9_run (a0 : Option Nat) (a1 : Int32) (a2 : Int32) (σ : SG) : Option (Int32 × SG) :=
  (sObj a0 8 σ).bind fun _ =>
  bnd (m_X9_isMachine a0 a1 σ) fun r4 σ5 =>
  if r4 = 0 then (
    some ((-1 : Int32), σ5)
  ) else (
    (sObj a0 8 σ5).bind fun _ =>
    bnd (m_X9_hold a0 σ5) fun _ σ7 =>
    (sGetR a0 8 0 σ7).bind fun x8 =>
    bnd (m_X9_m a1 σ7) fun r9 σ10 =>
    (sAld x8 1 (r9 + (4 : Int32)) σ10).bind fun x11 =>
    (sGetR a0 8 0 σ10).bind fun x12 =>
    bnd (m_X9_m a1 σ10) fun r13 σ14 =>
    if a2 = 0 then (
      m_X9_run_b45 a0 x11 x12 ((r13 + (4 : Int32))) ((0 : Int32)) σ14
    ) else (
      m_X9_run_b45 a0 x11 x12 ((r13 + (4 : Int32))) ((1 : Int32)) σ14
    )
  )
def rmX9_set : Room := { frames := 1, cells := 0, slots := 0, locals := 22 }
def m_X9_set_b33 (v0 : Option Nat) (v1 : Int32) (v2 : Int32) (s0 : Int32) (s1 : Int32) (s2 : Int32) (σ : SG) : Option (Int32 × SG) :=
  bnd (m_X9_in s0 s1 s2 σ) fun r1 σ2 =>
  if r1 = 0 then (
    some ((-2 : Int32), σ2)
  ) else (
    (sObj v0 8 σ2).bind fun _ =>
    bnd (m_X9_hold v0 σ2) fun _ σ4 =>
    (sGetR v0 8 0 σ4).bind fun x5 =>
    (sAld x5 1 v1 σ4).bind fun x6 =>
    (sGetR v0 8 0 σ4).bind fun x7 =>
    (sAst x7 1 v1 v2 σ4).bind fun σ8 =>
    (sObj v0 8 σ8).bind fun _ =>
    bnd (m_X9_recorded v0 x6 σ8) fun r9 σ10 =>
    some (r9, σ10)
  )
def m_X9_set_b22 (v0 : Option Nat) (v1 : Int32) (v2 : Int32) (s0 : Int32) (s1 : Int32) (σ : SG) : Option (Int32 × SG) :=
  if v1 = (3 : Int32) then (
    m_X9_set_b33 v0 v1 v2 s0 s1 ((3 : Int32)) σ
  ) else (
    m_X9_set_b33 v0 v1 v2 s0 s1 ((9 : Int32)) σ
  )
def m_X9_set (a0 : Option Nat) (a1 : Int32) (a2 : Int32) (σ : SG) : Option (Int32 × SG) :=
  bnd (m_X9_in a1 (0 : Int32) (3 : Int32) σ) fun r12 σ13 =>
  if r12 = 0 then (
    some ((-1 : Int32), σ13)
  ) else (
    if (2 : Int32) ≤ a1 then (
      m_X9_set_b22 a0 a1 a2 a2 ((1 : Int32)) σ13
    ) else (
      m_X9_set_b22 a0 a1 a2 a2 ((0 : Int32)) σ13
    )
  )
def rmX9_pass : Room := { frames := 8, cells := 0, slots := 0, locals := 185 }
def m_X9_pass (a0 : Option Nat) (a1 : Int32) (σ : SG) : Option (Int32 × SG) :=
  (sObj a0 8 σ).bind fun _ =>
  bnd (m_X9_hold a0 σ) fun _ σ1 =>
  (sObj a0 8 σ1).bind fun _ =>
  bnd (m_X9_passes a0 a1 σ1) fun r2 σ3 =>
  if 0 ≤ r2 then (
    (sObj a0 8 σ3).bind fun _ =>
    bnd (m_X9_recorded a0 r2 σ3) fun r5 σ6 =>
    some (r5, σ6)
  ) else (
    some (r2, σ3)
  )
def rmX9_append : Room := { frames := 1, cells := 0, slots := 0, locals := 22 }
def m_X9_append (a0 : Option Nat) (a1 : Int32) (σ : SG) : Option (Int32 × SG) :=
  bnd (m_X9_in a1 (32 : Int32) (126 : Int32) σ) fun r1 σ2 =>
  if r1 = 0 then (
    some ((-2 : Int32), σ2)
  ) else (
    (sGetI a0 8 11 σ2).bind fun x4 =>
    if x4 = (80 : Int32) then (
      some ((-3 : Int32), σ2)
    ) else (
      (sGetR a0 8 9 σ2).bind fun x6 =>
      (sGetI a0 8 11 σ2).bind fun x7 =>
      (sAst x6 0 x7 (vp_nar .char (((Int32.toUInt32 a1) % 65536).toInt32)) σ2).bind fun σ8 =>
      (sGetI a0 8 11 σ8).bind fun x9 =>
      (sPutI a0 8 11 (x9 + (1 : Int32)) σ8).bind fun σ10 =>
      (sGetI a0 8 11 σ10).bind fun x11 =>
      some (x11, σ10)
    )
  )
def rmX9_clearText : Room := { frames := 0, cells := 0, slots := 0, locals := 0 }
def m_X9_clearText (a0 : Option Nat) (σ : SG) : Option (Int32 × SG) :=
  (sGetI a0 8 11 σ).bind fun x1 =>
  (sPutI a0 8 11 (0 : Int32) σ).bind fun σ2 =>
  some (x1, σ2)
def rmX9_isSign : Room := { frames := 0, cells := 0, slots := 0, locals := 0 }
def m_X9_isSign (a0 : Option Nat) (a1 : Int32) (a2 : Int32) (σ : SG) : Option (Int32 × SG) :=
  (sGetI a0 8 14 σ).bind fun x1 =>
  (sGetI a0 8 11 σ).bind fun x2 =>
  if x2 ≤ x1 then (
    chkZ (0 : Int32) σ
  ) else (
    (sGetR a0 8 9 σ).bind fun x4 =>
    (sGetI a0 8 14 σ).bind fun x5 =>
    (sAld x4 0 x5 σ).bind fun x6 =>
    if x6 < a1 then (
      chkZ (0 : Int32) σ
    ) else (
      (sGetR a0 8 9 σ).bind fun x8 =>
      (sGetI a0 8 14 σ).bind fun x9 =>
      (sAld x8 0 x9 σ).bind fun x10 =>
      if a2 < x10 then (
        chkZ (0 : Int32) σ
      ) else (
        chkZ (1 : Int32) σ
      )
    )
  )
def rmX9_accepts : Room := { frames := 1, cells := 0, slots := 0, locals := 22 }
def m_X9_accepts_b21 (v2 : Int32) (s0 : Option Nat) (s1 : Int32) (s2 : Int32) (σ : SG) : Option (Int32 × SG) :=
  (sPutI s0 8 14 (s1 + s2) σ).bind fun σ1 =>
  chkZ v2 σ1
def m_X9_accepts (a0 : Option Nat) (a1 : Int32) (σ : SG) : Option (Int32 × SG) :=
  (sObj a0 8 σ).bind fun _ =>
  bnd (m_X9_isSign a0 a1 a1 σ) fun r2 σ3 =>
  (sGetI a0 8 14 σ3).bind fun x4 =>
  if r2 = 0 then (
    m_X9_accepts_b21 r2 a0 x4 ((0 : Int32)) σ3
  ) else (
    m_X9_accepts_b21 r2 a0 x4 ((1 : Int32)) σ3
  )
def rmX9_code : Room := { frames := 2, cells := 0, slots := 0, locals := 44 }
def m_X9_code (a0 : Option Nat) (σ : SG) : Option (Int32 × SG) :=
  (sObj a0 8 σ).bind fun _ =>
  bnd (m_X9_isSign a0 (48 : Int32) (51 : Int32) σ) fun r1 σ2 =>
  if r1 = 0 then (
    (sObj a0 8 σ2).bind fun _ =>
    bnd (m_X9_accepts a0 (43 : Int32) σ2) fun r4 σ5 =>
    if r4 = 0 then (
      (sObj a0 8 σ5).bind fun _ =>
      bnd (m_X9_accepts a0 (45 : Int32) σ5) fun r7 σ8 =>
      if r7 = 0 then (
        (sObj a0 8 σ8).bind fun _ =>
        bnd (m_X9_accepts a0 (94 : Int32) σ8) fun r10 σ11 =>
        if r10 = 0 then (
          (sObj a0 8 σ11).bind fun _ =>
          bnd (m_X9_accepts a0 (33 : Int32) σ11) fun r13 σ14 =>
          if r13 = 0 then (
            some ((-1 : Int32), σ14)
          ) else (
            some ((7 : Int32), σ14)
          )
        ) else (
          some ((6 : Int32), σ11)
        )
      ) else (
        some ((5 : Int32), σ8)
      )
    ) else (
      some ((4 : Int32), σ5)
    )
  ) else (
    (sGetR a0 8 9 σ2).bind fun x16 =>
    (sGetI a0 8 14 σ2).bind fun x17 =>
    (sAld x16 0 x17 σ2).bind fun x18 =>
    (sGetI a0 8 14 σ2).bind fun x19 =>
    (sPutI a0 8 14 (x19 + (1 : Int32)) σ2).bind fun σ20 =>
    some ((x18 - (48 : Int32)), σ20)
  )
def rmX9_word : Room := { frames := 3, cells := 0, slots := 0, locals := 65 }
def m_X9_word_b86 (v3 : Int32) (s0 : Option Nat) (s1 : Int32) (s2 : Int32) (σ : SG) : Option (Int32 × SG) :=
  (sPutI s0 8 13 (s1 + s2) σ).bind fun σ1 =>
  if v3 < 0 then (
    chkZ (0 : Int32) σ1
  ) else (
    chkZ (1 : Int32) σ1
  )
def m_X9_word (a0 : Option Nat) (a1 : Int32) (σ : SG) : Option (Int32 × SG) :=
  (sObj a0 8 σ).bind fun _ =>
  bnd (m_X9_isSign a0 (65 : Int32) (68 : Int32) σ) fun r3 σ4 =>
  if r3 = 0 then (
    chkZ (0 : Int32) σ4
  ) else (
    (sGetR a0 8 9 σ4).bind fun x6 =>
    (sGetI a0 8 14 σ4).bind fun x7 =>
    (sAld x6 0 x7 σ4).bind fun x8 =>
    (sGetI a0 8 14 σ4).bind fun x9 =>
    (sPutI a0 8 14 (x9 + (1 : Int32)) σ4).bind fun σ10 =>
    (sObj a0 8 σ10).bind fun _ =>
    bnd (m_X9_code a0 σ10) fun r11 σ12 =>
    (sGetR a0 8 8 σ12).bind fun x13 =>
    (sGetI a0 8 13 σ12).bind fun x14 =>
    (sAst x13 1 ((2 : Int32) * x14) a1 σ12).bind fun σ15 =>
    (sGetR a0 8 8 σ15).bind fun x16 =>
    (sGetI a0 8 13 σ15).bind fun x17 =>
    (sAst x16 1 (((2 : Int32) * x17) + (1 : Int32)) (((8 : Int32) * (x8 - (65 : Int32))) + r11) σ15).bind fun σ18 =>
    (sGetI a0 8 13 σ18).bind fun x19 =>
    if r11 < 0 then (
      m_X9_word_b86 r11 a0 x19 ((0 : Int32)) σ18
    ) else (
      m_X9_word_b86 r11 a0 x19 ((1 : Int32)) σ18
    )
  )
def rmX9_words : Room := { frames := 4, cells := 0, slots := 0, locals := 88 }
def m_X9_words_B46 (rec46 : Option Nat → Int32 → Int32 → SG → Option (Int32 × SG)) (v0 : Option Nat) (v1 : Int32) (v2 : Int32) (σ : SG) : Option (Int32 × SG) :=
  if v2 = 0 then (
    chkZ v2 σ
  ) else (
    (sObj v0 8 σ).bind fun _ =>
    bnd (m_X9_isSign v0 (65 : Int32) (68 : Int32) σ) fun r2 σ3 =>
    if r2 = 0 then (
      chkZ v2 σ3
    ) else (
      (sObj v0 8 σ3).bind fun _ =>
      bnd (m_X9_word v0 v1 σ3) fun r5 σ6 =>
      rec46 v0 v1 r5 σ6
    )
  )
def m_X9_words_L46 (n : Nat) : Option Nat → Int32 → Int32 → SG → Option (Int32 × SG) := itF (fun _ _ _ _ => none) (m_X9_words_B46 ) n
def m_X9_words_b45 (v0 : Option Nat) (v1 : Int32) (s0 : Int32) (σ : SG) : Option (Int32 × SG) :=
  m_X9_words_L46 1000 v0 v1 s0 σ
def m_X9_words_b44 (v0 : Option Nat) (v1 : Int32) (σ : SG) : Option (Int32 × SG) :=
  m_X9_words_b45 v0 v1 ((0 : Int32)) σ
def m_X9_words (a0 : Option Nat) (σ : SG) : Option (Int32 × SG) :=
  (sGetR a0 8 9 σ).bind fun x7 =>
  (sGetI a0 8 14 σ).bind fun x8 =>
  (sAld x7 0 x8 σ).bind fun x9 =>
  (sGetI a0 8 14 σ).bind fun x10 =>
  (sPutI a0 8 14 (x10 + (1 : Int32)) σ).bind fun σ11 =>
  (sObj a0 8 σ11).bind fun _ =>
  bnd (m_X9_accepts a0 (58 : Int32) σ11) fun r12 σ13 =>
  if r12 = 0 then (
    m_X9_words_b44 a0 ((x9 - (48 : Int32))) σ13
  ) else (
    (sObj a0 8 σ13).bind fun _ =>
    bnd (m_X9_word a0 (x9 - (48 : Int32)) σ13) fun r15 σ16 =>
    if r15 = 0 then (
      m_X9_words_b44 a0 ((x9 - (48 : Int32))) σ16
    ) else (
      m_X9_words_b45 a0 ((x9 - (48 : Int32))) ((1 : Int32)) σ16
    )
  )
def rmX9_beats : Room := { frames := 1, cells := 0, slots := 0, locals := 22 }
def m_X9_beats_b75 (v0 : Option Nat) (v1 : Int32) (σ : SG) : Option (Int32 × SG) :=
  (sGetR v0 8 8 σ).bind fun x1 =>
  (sGetI v0 8 13 σ).bind fun x2 =>
  (sAst x1 1 ((2 : Int32) * x2) (9 : Int32) σ).bind fun σ3 =>
  (sGetR v0 8 8 σ3).bind fun x4 =>
  (sGetI v0 8 13 σ3).bind fun x5 =>
  (sAst x4 1 (((2 : Int32) * x5) + (1 : Int32)) v1 σ3).bind fun σ6 =>
  (sGetI v0 8 13 σ6).bind fun x7 =>
  (sPutI v0 8 13 (x7 + (1 : Int32)) σ6).bind fun σ8 =>
  chkZ (1 : Int32) σ8
def m_X9_beats (a0 : Option Nat) (σ : SG) : Option (Int32 × SG) :=
  (sObj a0 8 σ).bind fun _ =>
  bnd (m_X9_isSign a0 (49 : Int32) (57 : Int32) σ) fun r9 σ10 =>
  if r9 = 0 then (
    chkZ (0 : Int32) σ10
  ) else (
    (sGetR a0 8 9 σ10).bind fun x12 =>
    (sGetI a0 8 14 σ10).bind fun x13 =>
    (sAld x12 0 x13 σ10).bind fun x14 =>
    (sGetI a0 8 14 σ10).bind fun x15 =>
    (sPutI a0 8 14 (x15 + (1 : Int32)) σ10).bind fun σ16 =>
    (sObj a0 8 σ16).bind fun _ =>
    bnd (m_X9_isSign a0 (48 : Int32) (57 : Int32) σ16) fun r17 σ18 =>
    if r17 = 0 then (
      m_X9_beats_b75 a0 ((x14 - (48 : Int32))) σ18
    ) else (
      (sGetR a0 8 9 σ18).bind fun x20 =>
      (sGetI a0 8 14 σ18).bind fun x21 =>
      (sAld x20 0 x21 σ18).bind fun x22 =>
      (sGetI a0 8 14 σ18).bind fun x23 =>
      (sPutI a0 8 14 (x23 + (1 : Int32)) σ18).bind fun σ24 =>
      m_X9_beats_b75 a0 (((((10 : Int32) * (x14 - (48 : Int32))) + x22) - (48 : Int32))) σ24
    )
  )
def rmX9_part : Room := { frames := 5, cells := 0, slots := 0, locals := 110 }
def m_X9_part (a0 : Option Nat) (σ : SG) : Option (Int32 × SG) :=
  (sObj a0 8 σ).bind fun _ =>
  bnd (m_X9_isSign a0 (48 : Int32) (52 : Int32) σ) fun r1 σ2 =>
  if r1 = 0 then (
    (sObj a0 8 σ2).bind fun _ =>
    bnd (m_X9_accepts a0 (116 : Int32) σ2) fun r4 σ5 =>
    if r4 = 0 then (
      chkZ (0 : Int32) σ5
    ) else (
      (sObj a0 8 σ5).bind fun _ =>
      bnd (m_X9_beats a0 σ5) fun r7 σ8 =>
      if r7 = 0 then (
        chkZ (0 : Int32) σ8
      ) else (
        chkZ (1 : Int32) σ8
      )
    )
  ) else (
    (sObj a0 8 σ2).bind fun _ =>
    bnd (m_X9_words a0 σ2) fun r10 σ11 =>
    chkZ r10 σ11
  )
def rmX9_faultOf : Room := { frames := 6, cells := 0, slots := 0, locals := 130 }
def m_X9_faultOf_b55 (v0 : Option Nat) (v1 : Int32) (σ : SG) : Option (Int32 × SG) :=
  if v1 = 0 then (
    (sGetI v0 8 14 σ).bind fun x2 =>
    some (x2, σ)
  ) else (
    some ((-1 : Int32), σ)
  )
def m_X9_faultOf_b51 (rec15 : Option Nat → Int32 → SG → Option (Int32 × SG)) (v0 : Option Nat) (s0 : Int32) (σ : SG) : Option (Int32 × SG) :=
  rec15 v0 s0 σ
def m_X9_faultOf_b50 (rec15 : Option Nat → Int32 → SG → Option (Int32 × SG)) (v0 : Option Nat) (σ : SG) : Option (Int32 × SG) :=
  m_X9_faultOf_b51 rec15 v0 ((0 : Int32)) σ
def m_X9_faultOf_B15 (rec15 : Option Nat → Int32 → SG → Option (Int32 × SG)) (v0 : Option Nat) (v1 : Int32) (σ : SG) : Option (Int32 × SG) :=
  if v1 = 0 then (
    m_X9_faultOf_b55 v0 v1 σ
  ) else (
    (sGetI v0 8 14 σ).bind fun x4 =>
    (sGetI v0 8 11 σ).bind fun x5 =>
    if x5 ≤ x4 then (
      m_X9_faultOf_b55 v0 v1 σ
    ) else (
      (sObj v0 8 σ).bind fun _ =>
      bnd (m_X9_accepts v0 (44 : Int32) σ) fun r7 σ8 =>
      if r7 = 0 then (
        m_X9_faultOf_b50 rec15 v0 σ8
      ) else (
        (sObj v0 8 σ8).bind fun _ =>
        bnd (m_X9_part v0 σ8) fun r10 σ11 =>
        if r10 = 0 then (
          m_X9_faultOf_b50 rec15 v0 σ11
        ) else (
          m_X9_faultOf_b51 rec15 v0 ((1 : Int32)) σ11
        )
      )
    )
  )
def m_X9_faultOf_L15 (n : Nat) : Option Nat → Int32 → SG → Option (Int32 × SG) := itF (fun _ _ _ => none) (m_X9_faultOf_B15 ) n
def m_X9_faultOf (a0 : Option Nat) (σ : SG) : Option (Int32 × SG) :=
  (sPutI a0 8 14 (0 : Int32) σ).bind fun σ13 =>
  (sPutI a0 8 13 (0 : Int32) σ13).bind fun σ14 =>
  (sObj a0 8 σ14).bind fun _ =>
  bnd (m_X9_part a0 σ14) fun r15 σ16 =>
  m_X9_faultOf_L15 1000 a0 r15 σ16
def rmX9_fault : Room := { frames := 7, cells := 0, slots := 0, locals := 151 }
def m_X9_fault (a0 : Option Nat) (σ : SG) : Option (Int32 × SG) :=
  (sObj a0 8 σ).bind fun _ =>
  bnd (m_X9_faultOf a0 σ) fun r1 σ2 =>
  if 0 ≤ r1 then (
    some (r1, σ2)
  ) else (
    some ((-5 : Int32), σ2)
  )
def rmX9_perform : Room := { frames := 8, cells := 0, slots := 0, locals := 185 }
def m_X9_perform_b114 (v0 : Option Nat) (v2 : Int32) (σ : SG) : Option (Int32 × SG) :=
  (sObj v0 8 σ).bind fun _ =>
  bnd (m_X9_recorded v0 v2 σ) fun r1 σ2 =>
  some (r1, σ2)
def m_X9_perform_b109 (rec22 : Option Nat → Int32 → Int32 → SG → Option (Int32 × SG)) (v0 : Option Nat) (v3 : Int32) (s0 : Int32) (s1 : Int32) (σ : SG) : Option (Int32 × SG) :=
  rec22 v0 ((s0 + s1)) v3 σ
def m_X9_perform_b98 (rec22 : Option Nat → Int32 → Int32 → SG → Option (Int32 × SG)) (v0 : Option Nat) (v2 : Int32) (s0 : Int32) (σ : SG) : Option (Int32 × SG) :=
  if s0 = 0 then (
    m_X9_perform_b109 rec22 v0 s0 v2 ((0 : Int32)) σ
  ) else (
    m_X9_perform_b109 rec22 v0 s0 v2 ((1 : Int32)) σ
  )
def m_X9_perform_b86 (rec22 : Option Nat → Int32 → Int32 → SG → Option (Int32 × SG)) (v0 : Option Nat) (v2 : Int32) (s0 : Int32) (σ : SG) : Option (Int32 × SG) :=
  if s0 < 0 then (
    m_X9_perform_b98 rec22 v0 v2 ((0 : Int32)) σ
  ) else (
    m_X9_perform_b98 rec22 v0 v2 ((1 : Int32)) σ
  )
def m_X9_perform_B22 (rec22 : Option Nat → Int32 → Int32 → SG → Option (Int32 × SG)) (v0 : Option Nat) (v2 : Int32) (v3 : Int32) (σ : SG) : Option (Int32 × SG) :=
  if v3 = 0 then (
    m_X9_perform_b114 v0 v2 σ
  ) else (
    (sGetI v0 8 13 σ).bind fun x6 =>
    if x6 ≤ v2 then (
      m_X9_perform_b114 v0 v2 σ
    ) else (
      (sGetR v0 8 8 σ).bind fun x8 =>
      (sAld x8 1 ((2 : Int32) * v2) σ).bind fun x9 =>
      if x9 = (9 : Int32) then (
        (sGetR v0 8 8 σ).bind fun x11 =>
        (sAld x11 1 (((2 : Int32) * v2) + (1 : Int32)) σ).bind fun x12 =>
        (sObj v0 8 σ).bind fun _ =>
        bnd (m_X9_passes v0 x12 σ) fun r13 σ14 =>
        m_X9_perform_b86 rec22 v0 v2 r13 σ14
      ) else (
        (sGetR v0 8 8 σ).bind fun x15 =>
        (sAld x15 1 ((2 : Int32) * v2) σ).bind fun x16 =>
        (sGetR v0 8 8 σ).bind fun x17 =>
        (sAld x17 1 (((2 : Int32) * v2) + (1 : Int32)) σ).bind fun x18 =>
        (sObj v0 8 σ).bind fun _ =>
        bnd (m_X9_says v0 x16 x18 σ) fun r19 σ20 =>
        m_X9_perform_b86 rec22 v0 v2 r19 σ20
      )
    )
  )
def m_X9_perform_L22 (n : Nat) : Option Nat → Int32 → Int32 → SG → Option (Int32 × SG) := itF (fun _ _ _ _ => none) (m_X9_perform_B22 ) n
def m_X9_perform (a0 : Option Nat) (σ : SG) : Option (Int32 × SG) :=
  (sObj a0 8 σ).bind fun _ =>
  bnd (m_X9_faultOf a0 σ) fun r21 σ22 =>
  if r21 < 0 then (
    (sObj a0 8 σ22).bind fun _ =>
    bnd (m_X9_hold a0 σ22) fun _ σ24 =>
    m_X9_perform_L22 1000 a0 ((0 : Int32)) ((1 : Int32)) σ24
  ) else (
    some (((-100 : Int32) - r21), σ22)
  )
def rmX9_undo : Room := { frames := 0, cells := 0, slots := 0, locals := 0 }
def m_X9_undo_B22 (rec22 : Option Nat → Int32 → SG → Option (Int32 × SG)) (v0 : Option Nat) (v1 : Int32) (σ : SG) : Option (Int32 × SG) :=
  if (190 : Int32) ≤ v1 then (
    (sGetI v0 8 12 σ).bind fun x2 =>
    some (x2, σ)
  ) else (
    (sGetR v0 8 0 σ).bind fun x3 =>
    (sGetR v0 8 3 σ).bind fun x4 =>
    (sGetI v0 8 12 σ).bind fun x5 =>
    (sAld x4 1 (((190 : Int32) * x5) + v1) σ).bind fun x6 =>
    (sAst x3 1 v1 x6 σ).bind fun σ7 =>
    rec22 v0 ((v1 + 1)) σ7
  )
def m_X9_undo_L22 (n : Nat) : Option Nat → Int32 → SG → Option (Int32 × SG) := itF (fun _ _ _ => none) (m_X9_undo_B22 ) n
def m_X9_undo (a0 : Option Nat) (σ : SG) : Option (Int32 × SG) :=
  (sGetI a0 8 12 σ).bind fun x8 =>
  if x8 = 0 then (
    some ((-5 : Int32), σ)
  ) else (
    (sGetI a0 8 12 σ).bind fun x10 =>
    (sPutI a0 8 12 (x10 - (1 : Int32)) σ).bind fun σ11 =>
    m_X9_undo_L22 1000 a0 ((0 : Int32)) σ11
  )
def rmX9_save : Room := { frames := 0, cells := 0, slots := 0, locals := 0 }
def m_X9_save_B2 (rec2 : Option Nat → Int32 → SG → Option (Int32 × SG)) (v0 : Option Nat) (v1 : Int32) (σ : SG) : Option (Int32 × SG) :=
  if (190 : Int32) ≤ v1 then (
    (sPutZ v0 8 10 (1 : Int32) σ).bind fun σ2 =>
    (sGetR v0 8 0 σ2).bind fun x3 =>
    (sAld x3 1 (4 : Int32) σ2).bind fun x4 =>
    some (x4, σ2)
  ) else (
    (sGetR v0 8 4 σ).bind fun x5 =>
    (sGetR v0 8 0 σ).bind fun x6 =>
    (sAld x6 1 v1 σ).bind fun x7 =>
    (sAst x5 1 v1 x7 σ).bind fun σ8 =>
    rec2 v0 ((v1 + 1)) σ8
  )
def m_X9_save_L2 (n : Nat) : Option Nat → Int32 → SG → Option (Int32 × SG) := itF (fun _ _ _ => none) (m_X9_save_B2 ) n
def m_X9_save (a0 : Option Nat) (σ : SG) : Option (Int32 × SG) :=
  m_X9_save_L2 1000 a0 ((0 : Int32)) σ
def rmX9_restore : Room := { frames := 1, cells := 0, slots := 0, locals := 22 }
def m_X9_restore_B16 (rec16 : Option Nat → Int32 → SG → Option (Int32 × SG)) (v0 : Option Nat) (v1 : Int32) (σ : SG) : Option (Int32 × SG) :=
  if (190 : Int32) ≤ v1 then (
    (sGetR v0 8 0 σ).bind fun x2 =>
    (sAld x2 1 (4 : Int32) σ).bind fun x3 =>
    (sObj v0 8 σ).bind fun _ =>
    bnd (m_X9_recorded v0 x3 σ) fun r4 σ5 =>
    some (r4, σ5)
  ) else (
    (sGetR v0 8 0 σ).bind fun x6 =>
    (sGetR v0 8 4 σ).bind fun x7 =>
    (sAld x7 1 v1 σ).bind fun x8 =>
    (sAst x6 1 v1 x8 σ).bind fun σ9 =>
    rec16 v0 ((v1 + 1)) σ9
  )
def m_X9_restore_L16 (n : Nat) : Option Nat → Int32 → SG → Option (Int32 × SG) := itF (fun _ _ _ => none) (m_X9_restore_B16 ) n
def m_X9_restore (a0 : Option Nat) (σ : SG) : Option (Int32 × SG) :=
  (sGetI a0 8 10 σ).bind fun x10 =>
  if x10 = 0 then (
    some ((-4 : Int32), σ)
  ) else (
    (sObj a0 8 σ).bind fun _ =>
    bnd (m_X9_hold a0 σ) fun _ σ12 =>
    m_X9_restore_L16 1000 a0 ((0 : Int32)) σ12
  )
def rmX9_senderOf : Room := { frames := 2, cells := 0, slots := 0, locals := 43 }
def m_X9_senderOf_b76 (v0 : Option Nat) (v2 : Int32) (v3 : Int32) (σ : SG) : Option (Int32 × SG) :=
  (sGetR v0 8 0 σ).bind fun x1 =>
  (sAld x1 1 ((v3 + (1 : Int32)) + v2) σ).bind fun x2 =>
  some (x2, σ)
def m_X9_senderOf_b32 (v0 : Option Nat) (v1 : Int32) (v2 : Int32) (v3 : Int32) (s0 : Int32) (σ : SG) : Option (Int32 × SG) :=
  swK v2 [
    (0, (
      m_X9_senderOf_b76 v0 v2 v3 σ
    )),
    (1, (
      m_X9_senderOf_b76 v0 v2 v3 σ
    )),
    (2, (
      m_X9_senderOf_b76 v0 v2 v3 σ
    )),
    (3, (
      if s0 = 0 then (
        some ((-5 : Int32), σ)
      ) else (
        (sGetR v0 8 0 σ).bind fun x4 =>
        (sAld x4 1 (v3 + (6 : Int32)) σ).bind fun x5 =>
        some (x5, σ)
      )
    )),
    (4, (
      if s0 = 0 then (
        some ((-5 : Int32), σ)
      ) else (
        (sGetR v0 8 0 σ).bind fun x7 =>
        (sAld x7 1 (v3 + (5 : Int32)) σ).bind fun x8 =>
        some (x8, σ)
      )
    )),
    (5, (
      (sGetR v0 8 0 σ).bind fun x9 =>
      (sAld x9 1 (v3 + (7 : Int32)) σ).bind fun x10 =>
      some (x10, σ)
    )),
    (6, (
      if s0 = 0 then (
        some ((-5 : Int32), σ)
      ) else (
        (sObj v0 8 σ).bind fun _ =>
        bnd (m_X9_bitOf v0 v1 σ) fun r12 σ13 =>
        some (r12, σ13)
      )
    ))
  ] (
    some ((-2 : Int32), σ)
  )
def m_X9_senderOf (a0 : Option Nat) (a1 : Int32) (a2 : Int32) (σ : SG) : Option (Int32 × SG) :=
  (sObj a0 8 σ).bind fun _ =>
  bnd (m_X9_isSender a0 a1 σ) fun r14 σ15 =>
  if r14 = 0 then (
    some ((-1 : Int32), σ15)
  ) else (
    bnd (m_X9_n a1 σ15) fun r17 σ18 =>
    (sGetR a0 8 0 σ18).bind fun x19 =>
    (sAld x19 1 (r17 + (4 : Int32)) σ18).bind fun x20 =>
    if x20 = (1 : Int32) then (
      m_X9_senderOf_b32 a0 a1 a2 r17 ((1 : Int32)) σ18
    ) else (
      m_X9_senderOf_b32 a0 a1 a2 r17 ((0 : Int32)) σ18
    )
  )
def rmX9_queued : Room := { frames := 2, cells := 0, slots := 0, locals := 43 }
def m_X9_queued (a0 : Option Nat) (a1 : Int32) (a2 : Int32) (σ : SG) : Option (Int32 × SG) :=
  (sObj a0 8 σ).bind fun _ =>
  bnd (m_X9_isSender a0 a1 σ) fun r1 σ2 =>
  if r1 = 0 then (
    some ((-1 : Int32), σ2)
  ) else (
    if 0 ≤ a2 then (
      (sGetR a0 8 0 σ2).bind fun x5 =>
      bnd (m_X9_n a1 σ2) fun r6 σ7 =>
      (sAld x5 1 (r6 + (3 : Int32)) σ7).bind fun x8 =>
      if x8 ≤ a2 then (
        some ((-5 : Int32), σ7)
      ) else (
        (sGetR a0 8 0 σ7).bind fun x10 =>
        bnd (m_X9_n a1 σ7) fun r11 σ12 =>
        (sAld x10 1 ((r11 + (8 : Int32)) + a2) σ12).bind fun x13 =>
        some (x13, σ12)
      )
    ) else (
      some ((-2 : Int32), σ2)
    )
  )
def rmX9_machineOf : Room := { frames := 2, cells := 0, slots := 0, locals := 43 }
def m_X9_machineOf (a0 : Option Nat) (a1 : Int32) (a2 : Int32) (σ : SG) : Option (Int32 × SG) :=
  (sObj a0 8 σ).bind fun _ =>
  bnd (m_X9_isMachine a0 a1 σ) fun r1 σ2 =>
  if r1 = 0 then (
    some ((-1 : Int32), σ2)
  ) else (
    bnd (m_X9_in a2 (0 : Int32) (3 : Int32) σ2) fun r4 σ5 =>
    if r4 = 0 then (
      some ((-2 : Int32), σ5)
    ) else (
      (sGetR a0 8 0 σ5).bind fun x7 =>
      bnd (m_X9_m a1 σ5) fun r8 σ9 =>
      (sAld x7 1 ((r8 + (1 : Int32)) + a2) σ9).bind fun x10 =>
      some (x10, σ9)
    )
  )
def rmX9_lampOf : Room := { frames := 2, cells := 0, slots := 0, locals := 43 }
def m_X9_lampOf (a0 : Option Nat) (a1 : Int32) (a2 : Int32) (σ : SG) : Option (Int32 × SG) :=
  (sObj a0 8 σ).bind fun _ =>
  bnd (m_X9_isLamp a0 a1 σ) fun r1 σ2 =>
  if r1 = 0 then (
    some ((-1 : Int32), σ2)
  ) else (
    bnd (m_X9_in a2 (0 : Int32) (4 : Int32) σ2) fun r4 σ5 =>
    if r4 = 0 then (
      some ((-2 : Int32), σ5)
    ) else (
      (sGetR a0 8 0 σ5).bind fun x7 =>
      bnd (m_X9_l a1 σ5) fun r8 σ9 =>
      (sAld x7 1 ((r8 + (1 : Int32)) + a2) σ9).bind fun x10 =>
      some (x10, σ9)
    )
  )
def rmX9_receiver : Room := { frames := 2, cells := 0, slots := 0, locals := 42 }
def m_X9_receiver (a0 : Option Nat) (a1 : Int32) (a2 : Int32) (σ : SG) : Option (Int32 × SG) :=
  bnd (m_X9_isWire a1 σ) fun r1 σ2 =>
  if r1 = 0 then (
    some ((-1 : Int32), σ2)
  ) else (
    bnd (m_X9_r a1 σ2) fun r4 σ5 =>
    swK a2 [
      (0, (
        (sGetR a0 8 0 σ5).bind fun x6 =>
        (sAld x6 1 (r4 + (0 : Int32)) σ5).bind fun x7 =>
        if x7 = (1 : Int32) then (
          (sGetR a0 8 0 σ5).bind fun x9 =>
          (sAld x9 1 (r4 + (2 : Int32)) σ5).bind fun x10 =>
          some (x10, σ5)
        ) else (
          some ((-5 : Int32), σ5)
        )
      )),
      (1, (
        (sGetR a0 8 0 σ5).bind fun x11 =>
        (sAld x11 1 (r4 + (0 : Int32)) σ5).bind fun x12 =>
        if x12 = 0 then (
          (sGetR a0 8 0 σ5).bind fun x14 =>
          (sAld x14 1 (r4 + (1 : Int32)) σ5).bind fun x15 =>
          some (x15, σ5)
        ) else (
          some ((-5 : Int32), σ5)
        )
      )),
      (2, (
        (sGetR a0 8 0 σ5).bind fun x16 =>
        (sAld x16 1 (r4 + (4 : Int32)) σ5).bind fun x17 =>
        if x17 = 0 then (
          some ((-5 : Int32), σ5)
        ) else (
          (sGetR a0 8 0 σ5).bind fun x19 =>
          (sAld x19 1 (r4 + (4 : Int32)) σ5).bind fun x20 =>
          some ((x20 - (1 : Int32)), σ5)
        )
      )),
      (3, (
        (sGetR a0 8 0 σ5).bind fun x21 =>
        (sAld x21 1 (r4 + (4 : Int32)) σ5).bind fun x22 =>
        if x22 = 0 then (
          some ((-5 : Int32), σ5)
        ) else (
          (sGetR a0 8 0 σ5).bind fun x24 =>
          (sAld x24 1 (4 : Int32) σ5).bind fun x25 =>
          (sGetR a0 8 0 σ5).bind fun x26 =>
          (sAld x26 1 (r4 + (5 : Int32)) σ5).bind fun x27 =>
          some ((x25 - x27), σ5)
        )
      )),
      (4, (
        (sGetR a0 8 0 σ5).bind fun x28 =>
        (sAld x28 1 (r4 + (6 : Int32)) σ5).bind fun x29 =>
        some (x29, σ5)
      ))
    ] (
      some ((-2 : Int32), σ5)
    )
  )
def rmX9_frame : Room := { frames := 1, cells := 0, slots := 0, locals := 22 }
def m_X9_frame (a0 : Option Nat) (a1 : Int32) (a2 : Int32) (σ : SG) : Option (Int32 × SG) :=
  bnd (m_X9_in a1 (0 : Int32) (31 : Int32) σ) fun r1 σ2 =>
  if r1 = 0 then (
    some ((-2 : Int32), σ2)
  ) else (
    bnd (m_X9_in a2 (0 : Int32) (13 : Int32) σ2) fun r4 σ5 =>
    if r4 = 0 then (
      some ((-2 : Int32), σ5)
    ) else (
      bnd (m_X9_frameBit a1 a2 σ5) fun r7 σ8 =>
      some (r7, σ8)
    )
  )
def rmX9_loss : Room := { frames := 2, cells := 0, slots := 0, locals := 42 }
def m_X9_loss (a0 : Option Nat) (a1 : Int32) (a2 : Int32) (σ : SG) : Option (Int32 × SG) :=
  bnd (m_X9_isWire a1 σ) fun r1 σ2 =>
  if r1 = 0 then (
    some ((-1 : Int32), σ2)
  ) else (
    bnd (m_X9_isWire a2 σ2) fun r4 σ5 =>
    if r4 = 0 then (
      some ((-1 : Int32), σ5)
    ) else (
      (sObj a0 8 σ5).bind fun _ =>
      bnd (m_X9_lossOf a0 a1 a2 σ5) fun r7 σ8 =>
      some (r7, σ8)
    )
  )
def rmX9_ofSenders : Room := { frames := 2, cells := 0, slots := 0, locals := 43 }
def m_X9_ofSenders_b59 (rec4 : Option Nat → Int32 → Int32 → Int32 → SG → Option (Int32 × SG)) (v0 : Option Nat) (v1 : Int32) (v2 : Int32) (v3 : Int32) (σ : SG) : Option (Int32 × SG) :=
  rec4 v0 v1 v2 ((v3 + 1)) σ
def m_X9_ofSenders_b57 (rec4 : Option Nat → Int32 → Int32 → Int32 → SG → Option (Int32 × SG)) (v0 : Option Nat) (v1 : Int32) (v3 : Int32) (s0 : Int32) (s1 : Int32) (σ : SG) : Option (Int32 × SG) :=
  m_X9_ofSenders_b59 rec4 v0 v1 ((s0 + s1)) v3 σ
def m_X9_ofSenders_B4 (rec4 : Option Nat → Int32 → Int32 → Int32 → SG → Option (Int32 × SG)) (v0 : Option Nat) (v1 : Int32) (v2 : Int32) (v3 : Int32) (σ : SG) : Option (Int32 × SG) :=
  if (5 : Int32) ≤ v3 then (
    some (v2, σ)
  ) else (
    (sObj v0 8 σ).bind fun _ =>
    bnd (m_X9_isSender v0 v3 σ) fun r2 σ3 =>
    if r2 = 0 then (
      m_X9_ofSenders_b59 rec4 v0 v1 v2 v3 σ3
    ) else (
      if v1 = (1 : Int32) then (
        m_X9_ofSenders_b57 rec4 v0 v1 v3 v2 ((1 : Int32)) σ3
      ) else (
        if v1 = (4 : Int32) then (
          (sGetR v0 8 0 σ3).bind fun x7 =>
          bnd (m_X9_n v3 σ3) fun r8 σ9 =>
          (sAld x7 1 (r8 + (4 : Int32)) σ9).bind fun x10 =>
          m_X9_ofSenders_b57 rec4 v0 v1 v3 v2 x10 σ9
        ) else (
          (sGetR v0 8 0 σ3).bind fun x11 =>
          bnd (m_X9_n v3 σ3) fun r12 σ13 =>
          (sAld x11 1 (r12 + (3 : Int32)) σ13).bind fun x14 =>
          m_X9_ofSenders_b57 rec4 v0 v1 v3 v2 x14 σ13
        )
      )
    )
  )
def m_X9_ofSenders_L4 (n : Nat) : Option Nat → Int32 → Int32 → Int32 → SG → Option (Int32 × SG) := itF (fun _ _ _ _ _ => none) (m_X9_ofSenders_B4 ) n
def m_X9_ofSenders (a0 : Option Nat) (a1 : Int32) (σ : SG) : Option (Int32 × SG) :=
  m_X9_ofSenders_L4 1000 a0 a1 ((0 : Int32)) ((0 : Int32)) σ
def rmX9_ofLamps : Room := { frames := 2, cells := 0, slots := 0, locals := 43 }
def m_X9_ofLamps_b43 (rec4 : Option Nat → Int32 → Int32 → Int32 → SG → Option (Int32 × SG)) (v0 : Option Nat) (v1 : Int32) (v3 : Int32) (s0 : Int32) (s1 : Int32) (σ : SG) : Option (Int32 × SG) :=
  rec4 v0 v1 ((s0 + s1)) ((v3 + 1)) σ
def m_X9_ofLamps_b42 (rec4 : Option Nat → Int32 → Int32 → Int32 → SG → Option (Int32 × SG)) (v0 : Option Nat) (v1 : Int32) (v3 : Int32) (s0 : Int32) (σ : SG) : Option (Int32 × SG) :=
  m_X9_ofLamps_b43 rec4 v0 v1 v3 s0 ((0 : Int32)) σ
def m_X9_ofLamps_b38 (rec4 : Option Nat → Int32 → Int32 → Int32 → SG → Option (Int32 × SG)) (v0 : Option Nat) (v1 : Int32) (v3 : Int32) (s0 : Int32) (σ : SG) : Option (Int32 × SG) :=
  m_X9_ofLamps_b43 rec4 v0 v1 v3 s0 ((1 : Int32)) σ
def m_X9_ofLamps_B4 (rec4 : Option Nat → Int32 → Int32 → Int32 → SG → Option (Int32 × SG)) (v0 : Option Nat) (v1 : Int32) (v2 : Int32) (v3 : Int32) (σ : SG) : Option (Int32 × SG) :=
  if (8 : Int32) ≤ v3 then (
    some (v2, σ)
  ) else (
    (sObj v0 8 σ).bind fun _ =>
    bnd (m_X9_isLamp v0 v3 σ) fun r2 σ3 =>
    if r2 = 0 then (
      m_X9_ofLamps_b42 rec4 v0 v1 v3 v2 σ3
    ) else (
      if v1 = (3 : Int32) then (
        m_X9_ofLamps_b38 rec4 v0 v1 v3 v2 σ3
      ) else (
        (sGetR v0 8 0 σ3).bind fun x6 =>
        bnd (m_X9_l v3 σ3) fun r7 σ8 =>
        (sAld x6 1 (r7 + (4 : Int32)) σ8).bind fun x9 =>
        if x9 ≤ 0 then (
          m_X9_ofLamps_b42 rec4 v0 v1 v3 v2 σ8
        ) else (
          m_X9_ofLamps_b38 rec4 v0 v1 v3 v2 σ8
        )
      )
    )
  )
def m_X9_ofLamps_L4 (n : Nat) : Option Nat → Int32 → Int32 → Int32 → SG → Option (Int32 × SG) := itF (fun _ _ _ _ _ => none) (m_X9_ofLamps_B4 ) n
def m_X9_ofLamps (a0 : Option Nat) (a1 : Int32) (σ : SG) : Option (Int32 × SG) :=
  m_X9_ofLamps_L4 1000 a0 a1 ((0 : Int32)) ((0 : Int32)) σ
def rmX9_count : Room := { frames := 3, cells := 0, slots := 0, locals := 66 }
def m_X9_count_b127 (v0 : Option Nat) (v1 : Int32) (σ : SG) : Option (Int32 × SG) :=
  (sGetR v0 8 0 σ).bind fun x1 =>
  (sAld x1 1 (v1 - (7 : Int32)) σ).bind fun x2 =>
  some (x2, σ)
def m_X9_count_b121 (v0 : Option Nat) (v1 : Int32) (σ : SG) : Option (Int32 × SG) :=
  (sObj v0 8 σ).bind fun _ =>
  bnd (m_X9_ofLamps v0 v1 σ) fun r3 σ4 =>
  some (r3, σ4)
def m_X9_count_b75 (v0 : Option Nat) (v1 : Int32) (σ : SG) : Option (Int32 × SG) :=
  (sObj v0 8 σ).bind fun _ =>
  bnd (m_X9_ofSenders v0 v1 σ) fun r5 σ6 =>
  some (r5, σ6)
def m_X9_count (a0 : Option Nat) (a1 : Int32) (σ : SG) : Option (Int32 × SG) :=
  swK a1 [
    (0, (
      (sGetR a0 8 0 σ).bind fun x7 =>
      (sAld x7 1 (4 : Int32) σ).bind fun x8 =>
      some (x8, σ)
    )),
    (1, (
      m_X9_count_b75 a0 a1 σ
    )),
    (2, (
      (sGetR a0 8 0 σ).bind fun x9 =>
      bnd (m_X9_m (0 : Int32) σ) fun r10 σ11 =>
      (sAld x9 1 r10 σ11).bind fun x12 =>
      (sGetR a0 8 0 σ11).bind fun x13 =>
      bnd (m_X9_m (1 : Int32) σ11) fun r14 σ15 =>
      (sAld x13 1 r14 σ15).bind fun x16 =>
      (sGetR a0 8 0 σ15).bind fun x17 =>
      bnd (m_X9_m (2 : Int32) σ15) fun r18 σ19 =>
      (sAld x17 1 r18 σ19).bind fun x20 =>
      (sGetR a0 8 0 σ19).bind fun x21 =>
      bnd (m_X9_m (3 : Int32) σ19) fun r22 σ23 =>
      (sAld x21 1 r22 σ23).bind fun x24 =>
      some ((((x12 + x16) + x20) + x24), σ23)
    )),
    (3, (
      m_X9_count_b121 a0 a1 σ
    )),
    (4, (
      m_X9_count_b75 a0 a1 σ
    )),
    (5, (
      m_X9_count_b75 a0 a1 σ
    )),
    (6, (
      m_X9_count_b121 a0 a1 σ
    )),
    (7, (
      m_X9_count_b127 a0 a1 σ
    )),
    (8, (
      m_X9_count_b127 a0 a1 σ
    )),
    (9, (
      m_X9_count_b127 a0 a1 σ
    )),
    (10, (
      m_X9_count_b127 a0 a1 σ
    )),
    (11, (
      (sGetI a0 8 12 σ).bind fun x25 =>
      some (x25, σ)
    )),
    (12, (
      (sGetI a0 8 11 σ).bind fun x26 =>
      some (x26, σ)
    ))
  ] (
    some ((-2 : Int32), σ)
  )
def rmX9_total : Room := { frames := 1, cells := 0, slots := 0, locals := 22 }
def m_X9_total (a0 : Option Nat) (a1 : Int32) (σ : SG) : Option (Int32 × SG) :=
  bnd (m_X9_in a1 (0 : Int32) (4 : Int32) σ) fun r1 σ2 =>
  if r1 = 0 then (
    some ((-2 : Int32), σ2)
  ) else (
    (sGetR a0 8 0 σ2).bind fun x4 =>
    (sAld x4 1 ((5 : Int32) + a1) σ2).bind fun x5 =>
    some (x5, σ2)
  )
def rmX9_silentIn : Room := { frames := 7, cells := 0, slots := 0, locals := 162 }
def m_X9_silentIn_b44 (v0 : Option Nat) (v1 : Int32) (s0 : Int32) (σ : SG) : Option (Int32 × SG) :=
  (sObj v0 8 σ).bind fun _ =>
  bnd (m_X9_putBack v0 σ) fun _ σ1 =>
  if s0 = 0 then (
    some ((-5 : Int32), σ1)
  ) else (
    some (v1, σ1)
  )
def m_X9_silentIn_b31 (v0 : Option Nat) (v1 : Int32) (σ : SG) : Option (Int32 × SG) :=
  (sObj v0 8 σ).bind fun _ =>
  bnd (m_X9_ofSenders v0 (5 : Int32) σ) fun r3 σ4 =>
  if r3 = 0 then (
    m_X9_silentIn_b44 v0 v1 ((1 : Int32)) σ4
  ) else (
    m_X9_silentIn_b44 v0 v1 ((0 : Int32)) σ4
  )
def m_X9_silentIn_B6 (rec6 : Option Nat → Int32 → SG → Option (Int32 × SG)) (v0 : Option Nat) (v1 : Int32) (σ : SG) : Option (Int32 × SG) :=
  if (600 : Int32) ≤ v1 then (
    m_X9_silentIn_b31 v0 v1 σ
  ) else (
    (sObj v0 8 σ).bind fun _ =>
    bnd (m_X9_ofSenders v0 (5 : Int32) σ) fun r7 σ8 =>
    if r7 ≤ 0 then (
      m_X9_silentIn_b31 v0 v1 σ8
    ) else (
      (sObj v0 8 σ8).bind fun _ =>
      bnd (m_X9_beat v0 σ8) fun _ σ10 =>
      rec6 v0 ((v1 + 1)) σ10
    )
  )
def m_X9_silentIn_L6 (n : Nat) : Option Nat → Int32 → SG → Option (Int32 × SG) := itF (fun _ _ _ => none) (m_X9_silentIn_B6 ) n
def m_X9_silentIn (a0 : Option Nat) (σ : SG) : Option (Int32 × SG) :=
  (sObj a0 8 σ).bind fun _ =>
  bnd (m_X9_keepTrial a0 σ) fun _ σ11 =>
  m_X9_silentIn_L6 1000 a0 ((0 : Int32)) σ11
def rmX9_levelIn : Room := { frames := 7, cells := 0, slots := 0, locals := 162 }
def m_X9_levelIn_B30 (rec30 : Option Nat → Int32 → Int32 → Int32 → SG → Option (Int32 × SG)) (v0 : Option Nat) (v1 : Int32) (v2 : Int32) (v3 : Int32) (σ : SG) : Option (Int32 × SG) :=
  if v2 ≤ v3 then (
    (sGetR v0 8 0 σ).bind fun x2 =>
    bnd (m_X9_l v1 σ) fun r3 σ4 =>
    (sAld x2 1 (r3 + (4 : Int32)) σ4).bind fun x5 =>
    (sObj v0 8 σ4).bind fun _ =>
    bnd (m_X9_putBack v0 σ4) fun _ σ6 =>
    some (x5, σ6)
  ) else (
    (sObj v0 8 σ).bind fun _ =>
    bnd (m_X9_beat v0 σ) fun _ σ7 =>
    rec30 v0 v1 v2 ((v3 + 1)) σ7
  )
def m_X9_levelIn_L30 (n : Nat) : Option Nat → Int32 → Int32 → Int32 → SG → Option (Int32 × SG) := itF (fun _ _ _ _ _ => none) (m_X9_levelIn_B30 ) n
def m_X9_levelIn (a0 : Option Nat) (a1 : Int32) (a2 : Int32) (σ : SG) : Option (Int32 × SG) :=
  (sObj a0 8 σ).bind fun _ =>
  bnd (m_X9_isLamp a0 a1 σ) fun r8 σ9 =>
  if r8 = 0 then (
    some ((-1 : Int32), σ9)
  ) else (
    bnd (m_X9_in a2 (0 : Int32) (400 : Int32) σ9) fun r11 σ12 =>
    if r11 = 0 then (
      some ((-2 : Int32), σ12)
    ) else (
      (sObj a0 8 σ12).bind fun _ =>
      bnd (m_X9_keepTrial a0 σ12) fun _ σ14 =>
      m_X9_levelIn_L30 1000 a0 a1 a2 ((0 : Int32)) σ14
    )
  )
def rmX9_freshness : Room := { frames := 0, cells := 0, slots := 0, locals := 0 }
def m_X9_freshness (a0 : Option Nat) (σ : SG) : Option (UInt32 × SG) :=
  (sGetR a0 8 0 σ).bind fun x1 =>
  (sAld x1 1 (7 : Int32) σ).bind fun x2 =>
  (sGetR a0 8 0 σ).bind fun x3 =>
  (sAld x3 1 (8 : Int32) σ).bind fun x4 =>
  (sGetR a0 8 0 σ).bind fun x5 =>
  (sAld x5 1 (9 : Int32) σ).bind fun x6 =>
  if ((x2 + x4) + x6) = 0 then (
    some (FP.fconst0, σ)
  ) else (
    (sGetR a0 8 0 σ).bind fun x8 =>
    (sAld x8 1 (7 : Int32) σ).bind fun x9 =>
    (sFdiv (FP.i2f x9) (FP.i2f ((x2 + x4) + x6))).bind fun f10 =>
    some (f10, σ)
  )
