def savS (s : xS) (j : Nat) : xS := (lA s, lH s, (fun i => if i = j then lA s else lS s i), (fun i => if i = j then true else lv s i), ln s, lc s)
noncomputable def spSave (s : xS) (x : Int32) : Int32 × xS := cIf (inB x 2) (nI (szS (lA s) 3), savS s (nN x)) (-2, s)
section CALLS9
variable {G : sG} {d : Nat} {P : sQ} {w : sW} {B : Nat} {s : xS}
end CALLS9
