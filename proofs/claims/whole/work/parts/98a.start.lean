/-! ===== pure: the start ===== -/
section
def mE : MS := (0, fun _ => (0, 0), fun _ _ => 0, fun _ _ => 0, fun _ _ => none)
/-- what must hold of the class's memory -/
def okX0 (σ : MS) : Bool :=
  decide (sN σ = 56) && (List.range 56).all (fun i => decide (SHX[i]? = some (sS σ i))) &&
  decide (sI σ 1 1 = 0) && decide (sI σ 0 11 = 0) && (List.range 5).all (fun j => decide (sI σ 23 j = 0)) &&
  (List.range 6).all (fun w => decide (sI σ 32 w = -1) && decide (sI σ 33 w = 0) && decide (sI σ 36 w = -1) && decide (sI σ 37 w = 0)) &&
  (List.range 4).all (fun p => decide (sI σ 34 p = 0) && decide (sI σ 38 p = 0) && decide (sR σ 43 p = none)) &&
  (decide (sI σ 31 3 = 0) && decide (sI σ 31 4 = 0) && decide (sI σ 31 5 = 0) && decide (sI σ 35 3 = 0) && decide (sI σ 35 4 = 0) && decide (sI σ 35 5 = 0)) &&
  (decide (sI σ 22 9 = -1) && decide (sI σ 22 10 = 0) && decide (sI σ 22 8 = 0) && decide (sI σ 22 4 = 0) && decide (sI σ 22 3 = 0)) &&
  (List.range 20).all (fun s => decide (sR σ 39 s = none))
def okM0 (σ : MS) : Bool :=
  decide (sN σ = 48) && (List.range 48).all (fun i => decide (SHM[i]? = some (sS σ i))) &&
  (decide (sI σ 0 29 = 0) && decide (sI σ 0 33 = 0) && decide (sI σ 0 38 = 12) && decide (sI σ 0 28 = 0) && decide (sI σ 0 51 = 0)) &&
  (List.range 9).all (fun j => decide (sI σ 1 j = 0)) && decide (sI σ 1 9 = -1) && decide (sI σ 17 0 = 0) && (List.range 4).all (fun k => decide (sI σ 46 k = 0))
def okO (p : MS → Bool) (o : Option MS) : Bool := match o with
  | none => false
  | some σ => p σ
theorem st_m : okO okM0 (f_X12_init 0 (al mE (30 + 12) 0)) = true := by decide +kernel
theorem st_x : okO okX0 (f_X11_init 0 (al mE (30 + 11) 0)) = true := by decide +kernel
end
