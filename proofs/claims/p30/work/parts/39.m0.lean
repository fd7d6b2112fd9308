/-- the model at the law's entry: the script at the id 3 -/
def M00 (L : Int) (xs : Int → Int) : Mo := (fun x => if x = 1 then 300 else if x = 2 then 301 else if x = 3 then 200 else if x = 4 then 302 else 0, fun x => if x = 3 then L else 0, fun _ _ _ => 0, fun t x k => if t = 90 ∧ x = 3 then xs k else 0, 0, 0)
