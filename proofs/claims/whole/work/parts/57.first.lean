/-! the first range -/
abbrev zA : Nat → Int32 := fun _ => (0 : Int32)
def fst5 : Option (Int32 × Int32 × (Nat → Int32) × (Nat → Int32) × (Nat → Int32) × (Nat → Int32) × (Nat → Int32) × (Nat → Int32)) := fX5_tail 0 0 zA zA zA zA zA zA
def tP : List Nat := [5, 0, 3, 0, 0, 9, 0, 0, 0, 0, 0, 2, 0, 0, 0, 4, 0, 6, 0, 0, 0, 0, 0, 8, 0]
def tS : List Nat := [3, 1, 2, 4, 2]
def tK : List Nat := [0, 1, 2, 3, 0]
def tH : List Nat := [9, 14, 6, 11, 17]
def tW : List Nat := [3, 5, 2, 7]
def tL : List Nat := [5, 1, 2, 5, 8, 0]
theorem ev5 : (match fst5 with
  | some (mn, wm, kd, hg, wd, pn, sd, gd) => mn == 5 && wm == 4 && (List.range 5).all (fun p => kd p == nI (tK.getD p 0)) && (List.range 5).all (fun p => hg p == nI (tH.getD p 0)) && (List.range 4).all (fun p => wd p == nI (tW.getD p 0)) && (List.range 30).all (fun p => pn p == nI (tP.getD p 0)) && (List.range 5).all (fun p => sd p == nI (tS.getD p 0)) && (List.range 5).all (fun p => gd p == nI (tL.getD p 0))
  | none => false) = true := by decide +kernel
abbrev tA : Nat → Int32 := pf zA chT 0 104
def fst4 : Option (Int32 × Int32 × Int32 × Int32 × Int32 × (Nat → Int32) × Int32 × Int32 × (Nat → Int32) × (Nat → Int32) × (Nat → Int32) × (Nat → Int32) × Int32 × Int32 × (Nat → Int32) × (Nat → Int32) × (Nat → Int32) × (Nat → Int32) × Int32 × Int32) := fX4_layAsTold 0 0 0 (nI 104) 0 tA zA 0 0 zA zA zA zA 0 0 zA zA zA zA 0 0
theorem ev4 : (match fst4 with
  | some (r, s1, s2, s3, _, _, _, _, _, _, _, _, pk, wt, kd, hg, wd, nw, uh, kh) => s1 == 0 && s2 == 0 && s3 == 0 && pk == 5 && wt == 4 && uh == 0 && kh == 0 && (List.range 5).all (fun p => kd p == nI (tK.getD p 0)) && (List.range 5).all (fun p => hg p == nI (tH.getD p 0)) && (List.range 4).all (fun p => wd p == nI (tW.getD p 0)) && (List.range 30).all (fun p => nw p == nI (tP.getD p 0)) && (List.range 5).all (fun p => nw (30 + p) == nI (tS.getD p 0)) && (List.range 6).all (fun p => nw (35 + p) == nI (tL.getD p 0)) && nw 41 == 0
  | none => false) = true := by decide +kernel
