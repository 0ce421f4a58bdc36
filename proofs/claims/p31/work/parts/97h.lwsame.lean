/-! the law's look at one array, whole -/
section SM6
variable {G : sG} {d : Nat} {P : sQ} {w : sW} {s : xS} {a : Nat} {f : Nat → Nat} {v : Nat → Int32} {co : Nat → Nat} {se : Nat → Int64} {x : Int32}
theorem l_same (h : jW G w s f v co se) (hf : jF s f) (ha : a < 3) (k : ∀ w' f' v' co' se', jW G w' s f' v' co' se' → jF s f' → P (some (.int (nI 1))) w') : wpM G (d + 17) yL_same (2, 18) [.ref (gB G), .int (nI a), .int x, .ref (gB G + 92), .ref (gB G + 93), .ref (gB G + 94), .ref (gB G + 95)] w P := by
  refine eL_same ?_
  refine sm1 _ _ _ _ _ _ _ _ _ _ _ _ _ _ _ _ _ _ _ _ _ _ _ _ h hf ha (fun _ _ _ => ?_)
  refine sm2 none none none _ _ _ _ _ _ _ _ _ _ _ _ _ _ _ _ _ _ _ h hf ha ?_
  refine sm3 _ _ _ _ _ _ _ _ _ _ _ _ _ _ _ _ _ _ _ _ _ _ h hf ha (fun w2 _ _ _ _ _ _ _ h2 => ?_)
  refine sm4 _ _ _ _ _ _ _ _ _ _ _ _ _ _ _ _ _ _ _ _ _ _ h2 hf ha (fun w3 v3 co3 se3 _ _ _ _ h3 => ?_)
  refine sm5 _ _ _ _ _ _ _ _ _ _ _ _ _ _ _ _ _ _ _ _ _ _ h3 hf ha (fun w4 _ _ _ _ _ h4 => ?_)
  refine sm6 _ _ _ _ _ _ _ _ _ _ _ _ _ _ _ _ _ _ _ _ _ _ h4 hf ha (fun w5 f5 _ h5 hf5 => ?_)
  refine sm7 _ _ _ _ _ _ _ _ _ _ _ _ _ _ _ _ _ _ _ _ _ _ h5 hf5 ha (fun w6 h6 => ?_)
  exact k w6 f5 v3 co3 se3 h6 hf5
end SM6
