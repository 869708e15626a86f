/-! ===== the class: funcOf, sigOf, methodOwner ===== -/
/-- the last func ahead of F of struct c and of that METHOD's name -/
def lFw (cf wf : Nat → Int) (c x : Int) : Nat → Int
  | 0 => -1
  | F + 1 => if cf F = c ∧ wf F = x then (F : Int) else lFw cf wf c x F
/-- the first of n from i on that has that name -/
def fsM (wf : Nat → Int) (x : Int) : Nat → Nat → Int
  | _, 0 => -1
  | i, n + 1 => if wf i = x then (i : Int) else fsM wf x (i + 1) n
section YSO
variable {K kd : Int → Int} {cf wf : Nat → Int} {P d F m0 mc : Nat} {s : zS} {a1 a2 : Int32} {nT n c x : Int} {TN : List Int}
theorem lFw_c : ∀ G : Nat, (lFn cf c G = -1 ∧ lFw cf wf c x G = -1) ∨ ∃ g : Nat, g < G ∧ lFn cf c G = (g : Int) ∧ cf g = c ∧ lFw cf wf c x G = if wf g = x then (g : Int) else lFw cf wf c x g
  | 0 => Or.inl ⟨rfl, rfl⟩
  | G + 1 => by
    show ((if cf G = c then (G : Int) else lFn cf c G) = -1 ∧ (if cf G = c ∧ wf G = x then (G : Int) else lFw cf wf c x G) = -1) ∨ ∃ g : Nat, g < G + 1 ∧ (if cf G = c then (G : Int) else lFn cf c G) = (g : Int) ∧ cf g = c ∧ (if cf G = c ∧ wf G = x then (G : Int) else lFw cf wf c x G) = if wf g = x then (g : Int) else lFw cf wf c x g
    by_cases h : cf G = c
    · refine Or.inr ⟨G, Nat.lt_succ_self _, if_pos h, h, ?_⟩
      by_cases h2 : wf G = x
      · rw [if_pos ⟨h, h2⟩, if_pos h2]
      · rw [if_neg (fun q => h2 q.2), if_neg h2]
    · rw [if_neg h, if_neg (fun q => h q.1)]
      rcases lFw_c G with q | ⟨g, q1, q2⟩
      · exact Or.inl q
      · exact Or.inr ⟨g, by omega, q2⟩
theorem lFw_b : ∀ G : Nat, lFw cf wf c x G = -1 ∨ ∃ g : Nat, g < G ∧ lFw cf wf c x G = (g : Int) ∧ cf g = c ∧ wf g = x
  | 0 => Or.inl rfl
  | G + 1 => by
    show (if cf G = c ∧ wf G = x then (G : Int) else lFw cf wf c x G) = -1 ∨ ∃ g : Nat, g < G + 1 ∧ (if cf G = c ∧ wf G = x then (G : Int) else lFw cf wf c x G) = (g : Int) ∧ cf g = c ∧ wf g = x
    by_cases h : cf G = c ∧ wf G = x
    · rw [if_pos h]
      exact Or.inr ⟨G, Nat.lt_succ_self _, rfl, h⟩
    · rw [if_neg h]
      rcases lFw_b G with q | ⟨g, q1, q2⟩
      · exact Or.inl q
      · exact Or.inr ⟨g, by omega, q2⟩
/-- funcOf -/
theorem zs_53 (hP : P = 3 ∨ P = 39) (hF : FNi P s cf nT F) (hF6 : F ≤ 60) (h1 : 0 ≤ a1.toInt ∧ a1.toInt < nT ∧ a1.toInt ≤ 100) : Zt (d + 9) (wd P 53) 53 [.ref P, .int a1, .int a2] s (fun v s' => s' = s ∧ ∃ r : Int32, v = some (.int r) ∧ r.toInt = lFw cf (fun f => fnc s P (f : Int) 6) a1.toInt a2.toInt F) := by
  refine zc_53 hP ?_
  unfold v_53_0
  intro x1 hx1 x2 hx2
  have ex1 := hx1 (by omega)
  have ex2 := hx2 (by omega)
  have e0 : (zg s (P + 24) x2).toInt = lFn cf a1.toInt F := by
    rw [← hF.2 a1.toInt h1.1 h1.2.1, zg_K, show x2.toInt = 6 * a1.toInt + 5 by omega]
    rfl
  refine ⟨fun c1 c2 c3 c4 u => c1 = a1 ∧ c2 = a2 ∧ u = s ∧ ∃ G i : Nat, G + i ≤ F ∧ c4.toInt = (i : Int) ∧ c3.toInt = lFn cf a1.toInt G ∧ lFw cf (fun f => fnc s P (f : Int) 6) a1.toInt a2.toInt F = lFw cf (fun f => fnc s P (f : Int) 6) a1.toInt a2.toInt G, fun _ _ _ c4 _ => (60 - c4.toInt).toNat, ⟨rfl, rfl, rfl, F, 0, Nat.le_refl _, by decide, e0, rfl⟩, ?_⟩
  rintro c1 c2 c3 c4 u ⟨e1, e2, e3, G, i, g1, g2, g3, g4⟩
  subst e1 e2 e3
  unfold v_53_11
  have hc := lFw_c (cf := cf) (wf := fun f => fnc u P (f : Int) 6) (c := c1.toInt) (x := c2.toInt) G
  have none1 : c3.toInt < 0 ∨ G = 0 → v_53_39 (fun j => Zt (d + 8) (wd P j) j) P c1 c2 c3 c4 u (fun v s' => s' = u ∧ ∃ r : Int32, v = some (.int r) ∧ r.toInt = lFw cf (fun f => fnc u P (f : Int) 6) c1.toInt c2.toInt F) := by
    intro h
    refine ⟨rfl, -1, rfl, ?_⟩
    rw [g4]
    rcases hc with ⟨-, q⟩ | ⟨g, q1, q2, -⟩
    · rw [q]
      decide
    · omega
  refine ⟨fun y => none1 (Or.inr (by omega)), fun y => ⟨fun y1 => none1 (Or.inl y1), fun y1 x3 hx3 x4 hx4 => ?_⟩⟩
  rcases hc with ⟨q, -⟩ | ⟨g, q1, q2, q3, q4⟩
  · omega
  have ex3 := hx3 (by omega)
  have ex4 := hx4 (by omega)
  have e6 : (zg u (P + 26) x4).toInt = fnc u P (g : Int) 6 := by
    rw [zg_K, show x4.toInt = 10 * (g : Int) + 6 by omega]
    rfl
  rw [e6]
  refine ⟨fun y2 x5 hx5 x6 hx6 x7 hx7 => ?_, fun y2 => ⟨rfl, c3, rfl, ?_⟩⟩
  · have ex5 := hx5 (by omega)
    have ex6 := hx6 (by omega)
    have ex7 := hx7 (by omega)
    have e9 : (zg u (P + 26) x6).toInt = lFn cf c1.toInt g := by
      rw [← q3, ← (hF.1 g (by omega)).2, zg_K, show x6.toInt = 10 * (g : Int) + 9 by omega]
      rfl
    refine ⟨⟨rfl, rfl, rfl, g, i + 1, by omega, by omega, e9, ?_⟩, by dsimp only; omega⟩
    rw [g4, q4, if_neg y2]
  · rw [g4, q4, if_pos y2]
    omega
theorem fsM_b : ∀ (k i : Nat), fsM wf x i k = -1 ∨ ∃ g : Nat, i ≤ g ∧ g < i + k ∧ fsM wf x i k = (g : Int) ∧ wf g = x
  | 0, i => Or.inl rfl
  | k + 1, i => by
    show (if wf i = x then (i : Int) else fsM wf x (i + 1) k) = -1 ∨ ∃ g : Nat, i ≤ g ∧ g < i + (k + 1) ∧ (if wf i = x then (i : Int) else fsM wf x (i + 1) k) = (g : Int) ∧ wf g = x
    by_cases h : wf i = x
    · rw [if_pos h]
      exact Or.inr ⟨i, Nat.le_refl _, by omega, rfl, h⟩
    · rw [if_neg h]
      rcases fsM_b k (i + 1) with q | ⟨g, q1, q2, q3⟩
      · exact Or.inl q
      · exact Or.inr ⟨g, by omega, by omega, q3⟩
/-- the HEAD of that name of type c, -1 if there is none -/
def sgO (cf : Nat → Int) (F : Nat) (kd : Int → Int) (P : Nat) (s : zS) (c x : Int) : Int := if kd c = 1 then (if 0 ≤ lFw cf (fun f => fnc s P (f : Int) 6) c x F then fnc s P (lFw cf (fun f => fnc s P (f : Int) 6) c x F) 5 else -1) else if kd c = 2 then fsM (fun h => sgc s P (h : Int) 1) x (tyc s P c 3).toNat (tyc s P c 4).toNat else -1
/-- sigOf -/
theorem zs_52 (hP : P = 3 ∨ P = 39) (hT : TNz P s K n TN) (hK : KDz P s kd TN) (hF : FNi P s cf (TN.length : Int) F) (hF6 : F ≤ 60) (h1 : 0 ≤ a1.toInt ∧ a1.toInt ≤ 100) (hm : kd a1.toInt = 2 → (0 ≤ tyc s P a1.toInt 3 ∧ tyc s P a1.toInt 3 ≤ 4000) ∧ 0 ≤ tyc s P a1.toInt 4 ∧ tyc s P a1.toInt 4 ≤ 100) : Zt (d + 10) (wd P 52) 52 [.ref P, .int a1, .int a2] s (fun v s' => s' = s ∧ ∃ r : Int32, v = some (.int r) ∧ r.toInt = sgO cf F kd P s a1.toInt a2.toInt) := by
  have zk := zInf_k (kd := kd) hT hK (x := a1) h1
  have hlt : ¬ kd a1.toInt = 0 → a1.toInt < (TN.length : Int) := fun h => by
    rcases Int.lt_or_le a1.toInt (TN.length : Int) with q | q
    · exact q
    · exact absurd (hK.2 _ (Or.inr q)) h
  refine zc_52 (d := d + 1) hP ?_
  unfold v_52_0
  refine ⟨fun y => ⟨fun y1 => ?_, fun y1 => ⟨rfl, -1, rfl, ?_⟩⟩, fun y => ?_⟩
  · have k1 : ¬ kd a1.toInt = 1 := zk.2.mp y
    have k2 : kd a1.toInt = 2 := by
      by_cases q : kd a1.toInt = 2
      · exact q
      · exact absurd (zk.1.mpr q) y1
    obtain ⟨m1, m2⟩ := hm k2
    have ev : sgO cf F kd P s a1.toInt a2.toInt = fsM (fun h => sgc s P (h : Int) 1) a2.toInt (tyc s P a1.toInt 3).toNat (tyc s P a1.toInt 4).toNat := by
      unfold sgO
      rw [if_neg k1, if_pos k2]
    rw [ev]
    have t3 := zg_ty (s := s) (P := P) (a1 := a1) (c := 3) (k := 3) (by decide) (by decide) (by omega)
    have t4 := zg_ty (s := s) (P := P) (a1 := a1) (c := 4) (k := 4) (by decide) (by decide) (by omega)
    refine ⟨fun c1 c2 c3 c4 u => c1 = a1 ∧ c2 = a2 ∧ u = s ∧ c3.toInt = tyc s P a1.toInt 3 ∧ ∃ i : Nat, c4.toInt = (i : Int) ∧ (i : Int) ≤ tyc s P a1.toInt 4 ∧ fsM (fun h => sgc s P (h : Int) 1) a2.toInt (tyc s P a1.toInt 3).toNat (tyc s P a1.toInt 4).toNat = fsM (fun h => sgc s P (h : Int) 1) a2.toInt ((tyc s P a1.toInt 3).toNat + i) ((tyc s P a1.toInt 4).toNat - i), fun _ _ _ c4 _ => (100 - c4.toInt).toNat, ⟨rfl, rfl, rfl, t3, 0, by decide, by omega, rfl⟩, ?_⟩
    rintro c1 c2 c3 c4 u ⟨e1, e2, e3, g1, i, g2, g3, g4⟩
    subst e1 e2 e3
    unfold v_52_31
    rw [t4]
    refine ⟨fun y2 => ⟨rfl, -1, rfl, ?_⟩, fun y2 x2 hx2 => ?_⟩
    · rw [g4, show (tyc u P c1.toInt 4).toNat - i = 0 by omega]
      show (-1 : Int32).toInt = -1
      decide
    · have ex2 := hx2 (by omega)
      have es : (zg u (P + 28) (x2 * 5 + 1)).toInt = sgc u P (((tyc u P c1.toInt 3).toNat + i : Nat) : Int) 1 := by
        rw [zg_sg (s := u) (P := P) (a1 := x2) (c := 1) (k := 1) (by decide) (by decide) (by omega), show x2.toInt = (((tyc u P c1.toInt 3).toNat + i : Nat) : Int) by omega]
      have ef : fsM (fun h => sgc u P (h : Int) 1) c2.toInt ((tyc u P c1.toInt 3).toNat + i) ((tyc u P c1.toInt 4).toNat - i) = if sgc u P (((tyc u P c1.toInt 3).toNat + i : Nat) : Int) 1 = c2.toInt then (((tyc u P c1.toInt 3).toNat + i : Nat) : Int) else fsM (fun h => sgc u P (h : Int) 1) c2.toInt ((tyc u P c1.toInt 3).toNat + (i + 1)) ((tyc u P c1.toInt 4).toNat - (i + 1)) := by
        rw [show (tyc u P c1.toInt 4).toNat - i = (tyc u P c1.toInt 4).toNat - (i + 1) + 1 by omega]
        rfl
      rw [es]
      refine ⟨fun y3 x4 hx4 => ?_, fun y3 x5 hx5 => ⟨rfl, x5, rfl, ?_⟩⟩
      · have ex4 := hx4 (by omega)
        refine ⟨⟨rfl, rfl, rfl, g1, i + 1, by omega, by omega, ?_⟩, by dsimp only; omega⟩
        rw [g4, ef, if_neg y3]
      · have ex5 := hx5 (by omega)
        rw [g4, ef, if_pos y3]
        omega
  · have k1 : ¬ kd a1.toInt = 1 := zk.2.mp y
    have k2 : ¬ kd a1.toInt = 2 := zk.1.mp y1
    unfold sgO
    rw [if_neg k1, if_neg k2]
    decide
  · have k1 : kd a1.toInt = 1 := by
      by_cases q : kd a1.toInt = 1
      · exact q
      · exact absurd (zk.2.mpr q) y
    have hl := hlt (by omega)
    refine Zt.imp (Zt.mo (d := 9) (by omega) (zs_53 (d := 0) hP hF hF6 ⟨h1.1, hl, h1.2⟩)) ?_
    rintro v2 s3 ⟨hs3, x4, rfl, hr⟩
    subst hs3
    have hb := lFw_b (cf := cf) (wf := fun f => fnc s3 P (f : Int) 6) (c := a1.toInt) (x := a2.toInt) F
    unfold sgO
    rw [if_pos k1, ← hr]
    rw [← hr] at hb
    refine ⟨x4, rfl, fun y4 => ⟨rfl, _, rfl, ?_⟩, fun y4 => ⟨rfl, -1, rfl, ?_⟩⟩
    · rw [if_pos y4]
      refine zg_fn (c := 5) (k := 5) (by decide) (by decide) ⟨y4, ?_⟩
      rcases hb with q | ⟨g, q1, q2, -⟩ <;> omega
    · rw [if_neg y4]
      decide
/-- methodOwner -/
theorem zs_90 (hP : P = 3 ∨ P = 39) (h1 : 0 ≤ KI (s.2 (P + 18)) a1.toInt ∧ KI (s.2 (P + 18)) a1.toInt < 36) (h4 : 24 ≤ KI (s.2 (P + 18)) a1.toInt → KI (s.2 (P + 18)) a1.toInt < 30 → (0 ≤ (s.1 75 4).toInt ∧ (s.1 75 4).toInt ≤ 100) ∧ 0 ≤ tyc s P (s.1 75 4).toInt 2 ∧ tyc s P (s.1 75 4).toInt 2 ≤ 4000) (h5 : 30 ≤ KI (s.2 (P + 18)) a1.toInt → (0 ≤ (s.1 75 6).toInt ∧ (s.1 75 6).toInt ≤ 4000) ∧ 0 ≤ sgc s P (s.1 75 6).toInt 2 ∧ sgc s P (s.1 75 6).toInt 2 ≤ 4000) : Zt (d + 9) (wd P 90) 90 [.ref 75, .int a1] s (fun v s' => s' = s ∧ ∃ r : Int32, v = some (.int r) ∧ r.toInt = if KI (s.2 (P + 18)) a1.toInt < 24 then a1.toInt else if KI (s.2 (P + 18)) a1.toInt < 30 then slc s P (tyc s P (s.1 75 4).toInt 2 + (KI (s.2 (P + 18)) a1.toInt - 24)) 3 else slc s P (sgc s P (s.1 75 6).toInt 2 + (KI (s.2 (P + 18)) a1.toInt - 30)) 3) := by
  have ew : (zg s (P + 18) a1).toInt = KI (s.2 (P + 18)) a1.toInt := zg_K
  refine zc_90 hP ?_
  unfold v_90_0
  rw [ew]
  intro x1 hx1
  have ex1 := hx1 (by omega)
  refine ⟨fun y => ⟨fun y1 x3 hx3 x4 hx4 => ⟨rfl, _, rfl, ?_⟩, fun y1 x7 hx7 => ⟨rfl, _, rfl, ?_⟩⟩, fun y => ⟨rfl, a1, rfl, ?_⟩⟩
  · obtain ⟨q1, q2⟩ := h5 (by omega)
    have es := zg_sg (s := s) (P := P) (a1 := s.1 75 6) (c := 2) (k := 2) (by decide) (by decide) (by omega)
    rw [es] at hx3
    have ex3 := hx3 (by omega)
    have ex4 := hx4 (by omega)
    rw [if_neg (by omega), if_neg (by omega), zg_sl (s := s) (P := P) (a1 := x4) (c := 3) (k := 3) (by decide) (by decide) (by omega)]
    congr 1
    omega
  · obtain ⟨q1, q2⟩ := h4 (by omega) (by omega)
    have es := zg_ty (s := s) (P := P) (a1 := s.1 75 4) (c := 2) (k := 2) (by decide) (by decide) (by omega)
    rw [es] at hx7
    have ex7 := hx7 (by omega)
    rw [if_neg (by omega), if_pos (by omega), zg_sl (s := s) (P := P) (a1 := x7) (c := 3) (k := 3) (by decide) (by decide) (by omega)]
    congr 1
    omega
  · rw [if_pos (by omega)]
end YSO
