def resS (s : xS) (j : Nat) : xS := (lS s j, (lA s :: lH s).take 6, lS s, lv s, ln s, lc s)
noncomputable def spRestore (s : xS) (x : Int32) : Int32 × xS := cIf (inB x 2) (if lv s (nN x) = true then (nI (szS (lS s (nN x)) 3), resS s (nN x)) else (-5, s)) (-2, s)
section CALLS10
variable {G : sG} {d : Nat} {P : sQ} {w : sW} {B : Nat} {s : xS}
end CALLS10
