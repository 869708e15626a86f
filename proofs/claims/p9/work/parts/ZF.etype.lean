/-! ===== the type of an E: pure ===== -/
section ZFE
variable (K L W ar kd : Int → Int) (TN Ls : List Int)
/-- which HEAD, what meets: by the declarations -/
def soD : Int → Int → Int := rso kd (cfO K L W TN Ls) (fsd K L Ls) (kFn K Ls) (tmd K L Ls) (tnd K L Ls) (hwd K L W Ls)
def mvD : List Int → List Int → List Int → Int := mtV ar kd (soD K L W kd TN Ls) (hwd K L W Ls) (hdd K L W ar TN Ls) (tmd K L Ls) (tnd K L Ls)
/-- FIELDS of a struct: names, TYPES -/
def fNm (c : Int) : List Int := match (tyL K Ls)[c.toNat]? with
  | some t => tMe K L false (0, t)
  | none => []
def fTy (c : Int) : List (List Int) := match (tyL K Ls)[c.toNat]? with
  | some t => (tMe K L false (0, t)).map (fun v => wdC K L W ar TN [] (tFo K L false (0, t)) (v + 1))
  | none => []
end ZFE
/-- a scope: PARAMS of the HEAD, of the type or func; their BOUNDS; VARS and their TYPES -/
def Scp : Type := List Int × List Int × (Int → List Int) × List Int × List (List Int)
section ZFG
variable (K L W ar kd : Int → Int) (TN Ls : List Int) (S : Scp)
/-- a TYPE in an E -/
def exT (t : Int) : Int × List Int := if (tlT K L (cdOf W S.1 S.2.1 TN) ar 10 t).1 = 0 then (ffs (slG K L W ar (mvD K L W ar kd TN Ls) (Bfd K L W ar TN Ls) S.2.2.1 TN S.1 S.2.1 t), wdC K L W ar TN S.1 S.2.1 t) else ((tlT K L (cdOf W S.1 S.2.1 TN) ar 10 t).1, [])
/-- a TYPE held against the one that is put -/
def exK (A : List Int) (η : Nat → List Int) (Z : List Int) : Int := if 60 < (sbs η Z).length then 9 else mvD K L W ar kd TN Ls A (ownT S.2.2.1 A) (sbs η Z)
/-- a fault of that kind at a token -/
def ftk (L : Int → Int) (k t : Int) : Int := if k = 0 then 0 else k + 16 * L t
/-- E in a list, each held against the TYPE of its slot -/
def exP (ev : Int → Int × List Int) (η : Nat → List Int) : List (Int × List Int) → Int
  | [] => 0
  | p :: l => if (ev p.1).1 = 0 then (if exK K L W ar kd TN Ls S (ev p.1).2 η p.2 = 0 then exP ev η l else exK K L W ar kd TN Ls S (ev p.1).2 η p.2 + 16 * L p.1) else (ev p.1).1
/-- tokens of n E, the opening sign at a -/
def exU (a : Int) (n : Nat) : List Int := (List.range n).map (fun i => uS (nxE K L) (a + 1) i)
/-- a VAR -/
def exV (t : Int) : Int × List Int := if 0 ≤ fIx (wEq W t) 0 S.2.2.2.1 then (0, S.2.2.2.2.getD (fIx (wEq W t) 0 S.2.2.2.1).toNat []) else (2 + 16 * L t, [])
/-- a struct with its values -/
def exL (ev : Int → Int × List Int) (t : Int) : Int × List Int :=
  if (exT K L W ar kd TN Ls S t).1 = 0 then
    if kd ((exT K L W ar kd TN Ls S t).2.headD 0) = 1 then
      if NV K L (nxT K L t) = (fTy K L W ar TN Ls ((exT K L W ar kd TN Ls S t).2.headD 0)).length then
        (exP K L W ar kd TN Ls S ev (eta (argT ar (exT K L W ar kd TN Ls S t).2) []) ((exU K L (nxT K L t) (NV K L (nxT K L t))).zip (fTy K L W ar TN Ls ((exT K L W ar kd TN Ls S t).2.headD 0))), (exT K L W ar kd TN Ls S t).2)
      else (4 + 16 * L t, [])
    else (6 + 16 * L t, [])
  else ((exT K L W ar kd TN Ls S t).1, [])
def exH (ev : Int → Int × List Int) (t : Int) : Int × List Int := if K (t + 1) = 123 ∨ K (t + 1) = 91 then exL K L W ar kd TN Ls S ev t else exV L W S t
/-- a FIELD, the point at a -/
def exF (a : Int) (A : List Int) : Int × List Int :=
  if kd (A.headD 0) = 1 then
    if 0 ≤ fIx (wEq W (a + 1)) 0 (fNm K L Ls (A.headD 0)) then
      if 60 < (sbs (eta (argT ar A) []) ((fTy K L W ar TN Ls (A.headD 0)).getD (fIx (wEq W (a + 1)) 0 (fNm K L Ls (A.headD 0))).toNat [])).length then (9 + 16 * L (a + 1), [])
      else (0, sbs (eta (argT ar A) []) ((fTy K L W ar TN Ls (A.headD 0)).getD (fIx (wEq W (a + 1)) 0 (fNm K L Ls (A.headD 0))).toNat []))
    else (2 + 16 * L (a + 1), [])
  else (6 + 16 * L a, [])
/-- .( TYPE ), the point at a -/
def exA (a : Int) (A : List Int) : Int × List Int :=
  if kd (A.headD 0) = 1 then (6 + 16 * L a, [])
  else if (exT K L W ar kd TN Ls S (a + 2)).1 = 0 then
    if kd ((exT K L W ar kd TN Ls S (a + 2)).2.headD 0) = 1 ∧ ¬ mvD K L W ar kd TN Ls (exT K L W ar kd TN Ls S (a + 2)).2 (ownT S.2.2.1 (exT K L W ar kd TN Ls S (a + 2)).2) (ownT S.2.2.1 A) = 0 then (mvD K L W ar kd TN Ls (exT K L W ar kd TN Ls S (a + 2)).2 (ownT S.2.2.1 (exT K L W ar kd TN Ls S (a + 2)).2) (ownT S.2.2.1 A) + 16 * L (a + 2), [])
    else (0, (exT K L W ar kd TN Ls S (a + 2)).2)
  else ((exT K L W ar kd TN Ls S (a + 2)).1, [])
/-- the TYPES told for a METHOD whose name stands at q: how many, where -/
def exN (q : Int) : Nat := if K (q + 1) = 91 then NT K L (q + 1) else 0
def exY (q : Int) : List Int := (List.range (exN K L q)).map (fun i => uS (nxT K L) (q + 2) i)
/-- the faults of these TYPES: as they are told, against BOUNDS, against the BOUNDS of the HEAD -/
def exB (η : Nat → List Int) (Bs : List (List Int)) (ys : List Int) : List Int := ys.map (fun y => (tlT K L (cdOf W S.1 S.2.1 TN) ar 10 y).1) ++ ys.flatMap (fun y => slG K L W ar (mvD K L W ar kd TN Ls) (Bfd K L W ar TN Ls) S.2.2.1 TN S.1 S.2.1 y) ++ (ys.zip Bs).map (fun p => ftk L (exK K L W ar kd TN Ls S (wdC K L W ar TN S.1 S.2.1 p.1) η p.2) p.1)
/-- what is put for a METHOD's PARAMS -/
def exE (O : List Int) (q : Int) : Nat → List Int := eta (argT ar O) ((exY K L q).map (fun y => wdC K L W ar TN S.1 S.2.1 y))
/-- a METHOD whose name stands at q, of HEAD h, with what tells it: O -/
def exC (ev : Int → Int × List Int) (q : Int) (O : List Int) (x : Nat × Nat × List (List Int)) : Int × List Int :=
  if exN K L q = x.1 ∧ NM K L q = x.2.1 then
    if ffs (exB K L W ar kd TN Ls S (exE K L W ar TN S O q) x.2.2 (exY K L q)) = 0 then
      if exP K L W ar kd TN Ls S ev (exE K L W ar TN S O q) ((exU K L (mO K L q).2 (NM K L q)).zip (x.2.2.drop x.1)) = 0 then
        if 60 < (sbs (exE K L W ar TN S O q) (x.2.2.getD (x.1 + x.2.1) [])).length then (9 + 16 * L q, []) else (0, sbs (exE K L W ar TN S O q) (x.2.2.getD (x.1 + x.2.1) []))
      else (exP K L W ar kd TN Ls S ev (exE K L W ar TN S O q) ((exU K L (mO K L q).2 (NM K L q)).zip (x.2.2.drop x.1)), [])
    else (ffs (exB K L W ar kd TN Ls S (exE K L W ar TN S O q) x.2.2 (exY K L q)), [])
  else (4 + 16 * L q, [])
def exM (ev : Int → Int × List Int) (a : Int) (A : List Int) : Int × List Int := if soD K L W kd TN Ls ((ownT S.2.2.1 A).headD 0) (W (a + 1)) < 0 then (2 + 16 * L (a + 1), []) else exC K L W ar kd TN Ls S ev (a + 1) (ownT S.2.2.1 A) (hdd K L W ar TN Ls (soD K L W kd TN Ls ((ownT S.2.2.1 A).headD 0) (W (a + 1))).toNat)
/-- what stands behind the point at a -/
def exO (ev : Int → Int × List Int) (a : Int) (A : List Int) : Int × List Int := if K (a + 1) = 40 then exA K L W ar kd TN Ls S a A else if K (a + 2) = 91 ∨ K (a + 2) = 40 then exM K L W ar kd TN Ls S ev a A else exF K L W ar kd TN Ls a A
/-- k points, the first at a -/
def exS (ev : Int → Int × List Int) : Nat → Int → Int × List Int → Int × List Int
  | 0, _, r => r
  | k + 1, a, r => if r.1 = 0 ∧ K a = 46 then exS ev k (aPt K L a) (exO K L W ar kd TN Ls S ev a r.2) else r
/-- an E, m levels left -/
def exE6 : Nat → Int → Int × List Int
  | 0, _ => (0, [])
  | m + 1, t => exS K L W ar kd TN Ls S (exE6 m) 20 (aHd K L t) (exH K L W ar kd TN Ls S (exE6 m) t)
end ZFG
section ZFL
variable {K L W ar kd : Int → Int} {TN Ls : List Int} {S : Scp} {ev : Int → Int × List Int}
theorem exS_b : ∀ (k : Nat) (a : Int) (r : Int × List Int), ¬ r.1 = 0 → exS K L W ar kd TN Ls S ev k a r = r
  | 0, _, _, _ => rfl
  | k + 1, a, r, h => by
    show (if r.1 = 0 ∧ K a = 46 then exS K L W ar kd TN Ls S ev k (aPt K L a) (exO K L W ar kd TN Ls S ev a r.2) else r) = r
    rw [if_neg (fun q => h q.1)]
end ZFL
