/-! What is checked of the class's constructor. -/
noncomputable def yin1 (nf : Bool) : Bool := match fev (yX0 (some nf)) zIT zmcl zMt fB 20 nX10_init ([], 0) [.ref 0] (1, yTi) with
  | none => false
  | some os => os.all (fun o => (match o.2.1 with
    | none => true
    | some _ => false) && yeqH (hL o.2.2) yHx)
