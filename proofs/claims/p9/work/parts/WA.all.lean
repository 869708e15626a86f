/-! ===== the class: tellAll ===== -/
/-- the words of a slot -/
def slW (K L W ar : Int → Int) (tp TN : List Int) (hfs : Int → List Int) (q : Int × Int × Int × Int) : List (Int × Int) := if q.2.2.1 < 0 then [] else (tlT K L (cdOf W (hfs q.2.2.2) tp TN) ar 10 q.2.2.1).2
/-- the PARAMS that hold in a declaration -/
def dTp (K L : Int → Int) (t : Int) : List Int := if K t = 6 then fPa K L false (0, t) else tFo K L false (0, t)
section WAF
variable (K L W ar kd : Int → Int) (TN : List Int) (hfs : Int → List Int)
/-- the faults of a declaration, as it is told -/
def dFs (h t : Int) : List Int := (if K t = 6 then [bdF K L W ar kd TN t] else []) ++ (sDc K L h t).map (slF K L W ar kd (dTp K L t) TN hfs)
def alFs : Int → List Int → List Int
  | _, [] => []
  | h, t :: l => dFs K L W ar kd TN hfs h t ++ alFs (h + ((dHd K L t).length : Int)) l
/-- the words of all slots -/
def aWd : Int → List Int → List (List (Int × Int))
  | _, [] => []
  | h, t :: l => (sDc K L h t).map (slW K L W ar (dTp K L t) TN hfs) ++ aWd (h + ((dHd K L t).length : Int)) l
end WAF
/-- the last func ahead of F whose struct is d -/
def lFn (cf : Nat → Int) (d : Int) : Nat → Int
  | 0 => -1
  | F + 1 => if cf F = d then (F : Int) else lFn cf d F
section WAA
variable {K L W ar kd : Int → Int} {TN : List Int} {hfs : Int → List Int} {P : Nat} {s s' : zS} {n lo hi m : Int} {Ls : List Int}
theorem alFs_app : ∀ (l : List Int) (h q : Int), alFs K L W ar kd TN hfs h (l ++ [q]) = alFs K L W ar kd TN hfs h l ++ dFs K L W ar kd TN hfs (h + (kHd K L l : Int)) q
  | [], h, q => by
    show dFs K L W ar kd TN hfs h q ++ [] = [] ++ dFs K L W ar kd TN hfs (h + ((0 : Nat) : Int)) q
    rw [List.append_nil, List.nil_append, show h + ((0 : Nat) : Int) = h by omega]
  | t :: l, h, q => by
    show dFs K L W ar kd TN hfs h t ++ alFs K L W ar kd TN hfs _ (l ++ [q]) = (dFs K L W ar kd TN hfs h t ++ alFs K L W ar kd TN hfs _ l) ++ _
    rw [alFs_app l, List.append_assoc]
    have e : (kHd K L (t :: l) : Int) = ((dHd K L t).length : Int) + (kHd K L l : Int) := by
      show (((if K t = 6 then 1 else tNh K L false (0, t)) + kHd K L l : Nat) : Int) = _
      rw [← dHd_len]
      omega
    rw [e, Int.add_assoc]
theorem aSl_cons {h t : Int} {l : List Int} : aSl K L h (t :: l) = sDc K L h t ++ aSl K L (h + ((dHd K L t).length : Int)) l := by
  show sDc K L h t ++ aSl K L _ l = _
  rw [dHd_len]
theorem aWd_len : ∀ (l : List Int) (h : Int), (aWd K L W ar TN hfs h l).length = (aSl K L h l).length
  | [], h => rfl
  | t :: l, h => by
    rw [aSl_cons]
    show ((sDc K L h t).map _ ++ aWd K L W ar TN hfs _ l).length = _
    rw [List.length_append, List.length_append, List.length_map, aWd_len l]
theorem aWd_at : ∀ (l : List Int) (i j : Nat) (h t : Int) (q : Int × Int × Int × Int), l[i]? = some t → (sDc K L (h + (kHd K L (l.take i) : Int)) t)[j]? = some q → (aWd K L W ar TN hfs h l)[(aSl K L h (l.take i)).length + j]? = some (slW K L W ar (dTp K L t) TN hfs q)
  | [], i, j, h, t, q, e, _ => by cases e
  | a :: l, 0, j, h, t, q, e, g => by
    have e' : a = t := by simpa using e
    have g' : (sDc K L h t)[j]? = some q := by
      have : h + ((kHd K L ((a :: l).take 0) : Nat) : Int) = h := by
        show h + ((0 : Nat) : Int) = h
        omega
      rw [this] at g
      exact g
    have hj := (List.getElem?_eq_some_iff.mp g').1
    show ((sDc K L h a).map (slW K L W ar (dTp K L a) TN hfs) ++ aWd K L W ar TN hfs _ l)[0 + j]? = _
    rw [e', Nat.zero_add, List.getElem?_append_left (by rw [List.length_map]; exact hj), List.getElem?_map, g']
    rfl
  | a :: l, i + 1, j, h, t, q, e, g => by
    have e1 : (a :: l).take (i + 1) = a :: l.take i := rfl
    rw [e1, aSl_cons]
    show ((sDc K L h a).map (slW K L W ar (dTp K L a) TN hfs) ++ aWd K L W ar TN hfs (h + ((dHd K L a).length : Int)) l)[(sDc K L h a ++ aSl K L (h + ((dHd K L a).length : Int)) (l.take i)).length + j]? = _
    rw [List.length_append, Nat.add_assoc, app_at (by rw [List.length_map])]
    refine aWd_at l i j _ t q e ?_
    have e2 : h + ((kHd K L ((a :: l).take (i + 1)) : Nat) : Int) = h + ((dHd K L a).length : Int) + (kHd K L (l.take i) : Int) := by
      show h + (((if K a = 6 then 1 else tNh K L false (0, a)) + kHd K L (l.take i) : Nat) : Int) = _
      rw [← dHd_len]
      omega
    rw [← e2]
    exact g
theorem srtQ_at : ∀ (l : List (Int × Int × Int × Int)) (lo hi : Int) (j : Nat) (q : Int × Int × Int × Int), srtQ K L lo hi l → l[j]? = some q → ∃ a b, lo ≤ a ∧ a ≤ b ∧ b ≤ hi ∧ (0 ≤ q.1 → lo ≤ q.1 ∧ q.1 < a) ∧ (0 ≤ q.2.2.1 → a ≤ q.2.2.1 ∧ nxT K L q.2.2.1 ≤ b ∧ (p_t K L 10 false (0, q.2.2.1)).1 = 0) ∧ srtQ K L b hi (l.drop (j + 1))
  | [], _, _, j, q, _, e => by cases e
  | x :: l, lo, hi, 0, q, g, e => by
    have e' : x = q := by simpa using e
    obtain ⟨a, b, h1, h2, h3, h4, h5⟩ := g
    rw [e'] at h3 h4
    exact ⟨a, b, h1, h2, srtQ_le h5, h3, h4, h5⟩
  | x :: l, lo, hi, j + 1, q, g, e => by
    obtain ⟨a, b, h1, h2, h3, h4, h5⟩ := g
    obtain ⟨a', b', k1, k2, k3, k4, k5, k6⟩ := srtQ_at l b hi j q h5 e
    exact ⟨a', b', by omega, k2, k3, fun hx => ⟨by have := k4 hx; omega, (k4 hx).2⟩, k5, k6⟩
/-- the slots ahead of j were told -/
def SWz (K L W ar : Int → Int) (TN : List Int) (hfs : Int → List Int) (P : Nat) (s : zS) (Ls : List Int) (k : Int) (j : Nat) : Prop := ∀ (i : Nat) (q : Int × Int × Int × Int) (w : List (Int × Int)), i < j → (aSl K L 0 Ls)[i]? = some q → (aWd K L W ar TN hfs 0 Ls)[i]? = some w → (q.2.2.1 < 0 → slc s P (i : Int) 3 = -1) ∧ (0 ≤ q.2.2.1 → 18738 ≤ slc s P (i : Int) 3 ∧ slc s P (i : Int) 3 + (w.length : Int) ≤ k ∧ WDz P s (slc s P (i : Int) 3) (w.map Prod.fst) ∧ TTz P s (slc s P (i : Int) 3) (w.map Prod.snd))
/-- funcs ahead of F have their structs -/
def FNi (P : Nat) (s : zS) (cf : Nat → Int) (nT : Int) (F : Nat) : Prop := (∀ f : Nat, f < F → fnc s P (f : Int) 2 = cf f ∧ fnc s P (f : Int) 9 = lFn cf (cf f) f) ∧ ∀ d : Int, 0 ≤ d → d < nT → tyc s P d 5 = lFn cf d F
/-- the struct of func f -/
def cfO (K L W : Int → Int) (TN Ls : List Int) (f : Nat) : Int := match (fnL K Ls)[f]? with
  | some t => fcd K L W TN t
  | none => -1
/-- the slots' cells that stay -/
def SLc (P : Nat) (s : zS) (Sl : List (Int × Int × Int × Int)) : Prop := ∀ (i : Nat) q, Sl[i]? = some q → slc s P (i : Int) 0 = q.1 ∧ slc s P (i : Int) 1 = q.2.1 ∧ slc s P (i : Int) 2 = q.2.2.1 ∧ slc s P (i : Int) 4 = q.2.2.2
theorem SLc_of {Sl : List (Int × Int × Int × Int)} (h : SLat s P 0 Sl) : SLc P s Sl ∧ ∀ (i : Nat) q, Sl[i]? = some q → slc s P (i : Int) 3 = -1 := by
  have key : ∀ (i : Nat) (c : Nat), slc s P (i : Int) (c : Int) = (s.2 (P + 30) (5 * (0 + i) + c)).toInt := fun i c => by
    unfold slc
    rw [show 5 * (i : Int) + (c : Int) = ((5 * (0 + i) + c : Nat) : Int) by omega, KI_n]
  refine ⟨fun i q hq => ?_, fun i q hq => ?_⟩
  · obtain ⟨h0, h1, h2, h3, h4⟩ := h i q hq
    exact ⟨(key i 0).trans h0, (key i 1).trans h1, (key i 2).trans h2, (key i 4).trans h4⟩
  · obtain ⟨h0, h1, h2, h3, h4⟩ := h i q hq
    exact (key i 3).trans h3
theorem SLc_f {Sl : List (Int × Int × Int × Int)} (g : TAf P s s') (h : SLc P s Sl) : SLc P s' Sl := fun i q hq => by
  obtain ⟨h0, h1, h2, h4⟩ := h i q hq
  rw [TAf_sl g (by omega) (by decide) (by decide), TAf_sl g (by omega) (by decide) (by decide), TAf_sl g (by omega) (by decide) (by decide), TAf_sl g (by omega) (by decide) (by decide)]
  exact ⟨h0, h1, h2, h4⟩
theorem lFn_eq {cf cf' : Nat → Int} {d : Int} : ∀ F : Nat, (∀ f, f < F → cf' f = cf f) → lFn cf' d F = lFn cf d F
  | 0, _ => rfl
  | F + 1, h => by
    show (if cf' F = d then (F : Int) else lFn cf' d F) = if cf F = d then (F : Int) else lFn cf d F
    rw [h F (by omega), lFn_eq F (fun f hf => h f (by omega))]
end WAA
