/-! the first words, and sane Rows, behind the constructors -/
def exBx (h : xH) : Bool := (aB (fun i => decide ((rv h 21 i).toInt = 24 + (i : Int)) && decide ((rv h 57 i).toInt = 24 + (i : Int))) 18 && i0B h 0 11) && aB (fun a => !(skB a) || (match rc h a with
  | some q => aB (fun i => decide (-1000 ≤ (q.2.2 i).toInt) && decide ((q.2.2 i).toInt ≤ 100000)) q.2.1
  | none => true)) 205
theorem xe_11 : exBx xh2 = true := by decide +kernel
