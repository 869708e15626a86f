/-! ===== the class: what program answers ===== -/
/-- which types are structs (1), which interfaces (2) -/
def kdF (K L : Int → Int) (Ls : List Int) (c : Int) : Int := if c < 0 then 0 else match (tyL K Ls)[c.toNat]? with
  | some t => if tSt K L false (0, t) = true then 1 else 2
  | none => 0
/-- the types' names -/
def tnF (K : Int → Int) (Ls : List Int) : List Int := (tyL K Ls).map (fun t => t + 1)
/-- whether a TYPE implements another -/
def mvF (K L W ar : Int → Int) (Ls : List Int) : List Int → List Int → List Int → Int := mtV ar (kdF K L Ls) (rso (kdF K L Ls) (cfO K L W (tnF K Ls) Ls) (fsd K L Ls) (kFn K Ls) (tmd K L Ls) (tnd K L Ls) (hwd K L W Ls)) (hwd K L W Ls) (hdd K L W ar (tnF K Ls) Ls) (tmd K L Ls) (tnd K L Ls)
/-- the faults behind the reading, look by look -/
noncomputable def lvF (K L W ar : Int → Int) (Ls : List Int) (mB : Int) : List Int := [frst L (twA W K L Ls Ls.length) 0, ffs (alFs K L W ar (kdF K L Ls) (tnF K Ls) (hfS K L Ls) 0 Ls), ffs (dLs K L W ar (mvF K L W ar Ls) (tnF K Ls) Ls).flatten, ffs (L5 (eg5 K L W (kdF K L Ls) (tnF K Ls) Ls) L (tnF K Ls)), ffs (eFs K L W ar (kdF K L Ls) (tnF K Ls) Ls mB)]
/-- what program answers -/
noncomputable def pgF (K L W ar : Int → Int) : Int := ffs ((p_pg K L (0, 0)).1 :: lvF K L W ar (l_al K L 4000 0 0 (0, 0)) ((p_al K L 4000 0 0 (0, 0)).2 + 1))
/-- arities, and where what was read ends -/
def GDk (K L ar : Int → Int) (n : Int) : Prop := (p_pg K L (0, 0)).1 = 0 → ((∀ c, 0 ≤ ar c ∧ ar c ≤ 7) ∧ ∀ c, 24 ≤ c → ar c = 0) ∧ (∀ (i : Nat) (t : Int), (l_al K L 4000 0 0 (0, 0))[i]? = some t → ¬ K t = 6 → ar (kTy K ((l_al K L 4000 0 0 (0, 0)).take i) : Int) = ((tFo K L false (0, t)).length : Int)) ∧ (kTy K (l_al K L 4000 0 0 (0, 0)) ≤ 24 ∧ kFn K (l_al K L 4000 0 0 (0, 0)) ≤ 60) ∧ (p_al K L 4000 0 0 (0, 0)).1 = 0 ∧ (p_e K L 10 false (0, (p_al K L 4000 0 0 (0, 0)).2 + 1)).1 = 0 ∧ (p_e K L 10 false (0, (p_al K L 4000 0 0 (0, 0)).2 + 1)).2 ≤ n
section ZZU
variable {K L W ar kd : Int → Int} {n lo hi k0 m : Int} {TN Ls : List Int} {P d N i : Nat} {t : Int} {s s0 u z : zS}
theorem kdF_at (h1 : Ls[i]? = some t) (h6 : ¬ K t = 6) : kdF K L Ls (kTy K (Ls.take i) : Int) = if tSt K L false (0, t) = true then 1 else 2 := by
  unfold kdF
  rw [if_neg (by omega), Int.toNat_natCast, tyL_at Ls i t h1 h6]
theorem kdF_no {c : Int} (h : c < 0 ∨ (kTy K Ls : Int) ≤ c) : kdF K L Ls c = 0 := by
  unfold kdF
  by_cases h0 : c < 0
  · rw [if_pos h0]
  · rw [if_neg h0, List.getElem?_eq_none (by rw [tyL_len]; omega)]
theorem TXp_of (hX : TXT s0 P N z) (hn : N ≤ 4000) : TXp (KI (z.2 (P + 4))) (KI (z.2 (P + 6))) (ntk (z.2 (P + 2)) N) := by
  obtain ⟨-, x2, x3, x4, x5, x6, x7⟩ := hX
  have hle := ntk_le (sg := z.2 (P + 2)) (k := N)
  refine ⟨by omega, ?_, fun i i0 i1 => ?_⟩
  · rw [KI_n]
    exact x5
  · obtain ⟨q, rfl⟩ : ∃ q : Nat, i = (q : Int) := ⟨i.toNat, by omega⟩
    rw [KI_n]
    exact (x3.2.1 q (by omega)).1
theorem SMz_of (hX : TXT s0 P N z) : SMz P z (KI (z.2 (P + 4))) (KI (z.2 (P + 10))) (ntk (z.2 (P + 2)) N) := by
  obtain ⟨-, x2, ⟨x3, x4, x5, x6, x7⟩, -⟩ := hX
  intro t u t0 t1 u0 u1 kt ku
  obtain ⟨a, rfl⟩ : ∃ a : Nat, t = (a : Int) := ⟨t.toNat, by omega⟩
  obtain ⟨b, rfl⟩ : ∃ b : Nat, u = (b : Int) := ⟨u.toNat, by omega⟩
  rw [KI_n] at kt ku
  rw [Int.toNat_natCast, Int.toNat_natCast, KI_n, KI_n]
  have ha : a < ntk (z.2 (P + 2)) N + 1 := by omega
  have hb : b < ntk (z.2 (P + 2)) N + 1 := by omega
  refine ⟨x4 a ha, x4 b hb, ?_⟩
  obtain ⟨a', a1, a2, a3, a4⟩ := x6 a ha kt
  obtain ⟨b', b1, b2, b3, b4⟩ := x6 b hb ku
  rw [a2, b2]
  refine ⟨fun h => ?_, fun h => ?_⟩
  · have e : eqT z P a' b' := eqp_tr a4 (eqp_tr h (eqp_sy b4))
    rcases Nat.lt_trichotomy a' b' with q | q | q
    · exact absurd e (x7 a' b' q (by omega) a3 b3)
    · rw [q]
    · exact absurd (eqp_sy e) (x7 b' a' q (by omega) b3 a3)
  · have e : a' = b' := by omega
    subst e
    exact eqp_tr (eqp_sy a4) b4
theorem TXT_f (e2 : u.2 = z.2) (e1 : u.1 (P + 2) 2 = z.1 (P + 2) 2) (e3 : u.1 (P + 4) 2 = z.1 (P + 4) 2) (g : TXT s0 P N z) : TXT s0 P N u := by
  obtain ⟨u1, u2⟩ := u
  obtain ⟨z1, z2⟩ := z
  dsimp only at e1 e2 e3
  subst e2
  obtain ⟨x1, x2, ⟨x3, x4⟩, x5⟩ := g
  exact ⟨x1, (congrArg Int32.toInt e1).trans x2, ⟨(congrArg Int32.toInt e3).trans x3, x4⟩, x5⟩
/-- begin -/
theorem zs_37 (hP : P = 3 ∨ P = 39) (hn : (s.1 1 2).toInt = (N : Int)) (hn4 : N ≤ 4000) : Zt (d + 14) (wd P 37) 37 [.ref P, .ref 1] s (fun v s' => v = none ∧ TXT s P N s' ∧ (∀ b, b ∉ (P + 2) :: tkR P → s'.2 b = s.2 b) ∧ (∀ r ∈ rwL, zsz s' (P + r) = 0) ∧ (s'.1 P 10).toInt = 18738 ∧ (s'.1 P 14).toInt = 0 ∧ (s'.1 (P + 34) 2).toInt = 0) := by
  refine zc_37 (d := d + 5) hP ?_
  unfold v_37_0
  refine Zt.imp (zs_110 (d := d) hP hn hn4) ?_
  rintro v s2 ⟨rfl, g1, g2⟩
  refine ⟨rfl, ?_⟩
  rintro s3 rfl s4 rfl s5 rfl s6 rfl s7 rfl s8 rfl s9 rfl s10 rfl
  refine ⟨rfl, TXT_f (z := s2) rfl ?_ ?_ g1, g2.1, fun r hr => ?_, ?_, ?_, ?_⟩
  · repeat rw [zf_1, if_neg (by omega)]
  · repeat rw [zf_1, if_neg (by omega)]
  · unfold zsz
    simp only [rwL, List.mem_cons, List.not_mem_nil, or_false] at hr
    rcases hr with rfl | rfl | rfl | rfl | rfl
    · repeat rw [zf_1, if_neg (by omega)]
      rw [zf_1, if_pos ⟨rfl, rfl⟩]
      decide
    · repeat rw [zf_1, if_neg (by omega)]
      rw [zf_1, if_pos ⟨rfl, rfl⟩]
      decide
    · repeat rw [zf_1, if_neg (by omega)]
      rw [zf_1, if_pos ⟨rfl, rfl⟩]
      decide
    · repeat rw [zf_1, if_neg (by omega)]
      rw [zf_1, if_pos ⟨rfl, rfl⟩]
      decide
    · repeat rw [zf_1, if_neg (by omega)]
      rw [zf_1, if_pos ⟨rfl, rfl⟩]
      decide
  · rw [zf_1, if_neg (by omega), zf_1, if_pos ⟨rfl, rfl⟩]
    decide
  · rw [zf_1, if_pos ⟨rfl, rfl⟩]
    decide
  · repeat rw [zf_1, if_neg (by omega)]
    rw [zf_1, if_pos ⟨rfl, rfl⟩]
    decide
/-- use -/
theorem zs_81 (hP : P = 3 ∨ P = 39) : Zu (d + 18) [(75, 0), (75, 1), (75, 2)] [] [(75, 2, P + 22), (75, 1, P + 18), (75, 0, P)] 81 [.ref 75, .ref P, .int 18] s (fun v s' => v = none ∧ s'.2 = s.2 ∧ (s'.1 75 3).toInt = 18 ∧ ∀ b q, ¬ (b = 75 ∧ (q = 3 ∨ q = 4 ∨ q = 5 ∨ q = 6)) → s'.1 b q = s.1 b q) := by
  refine zc_81 (d := d + 9) hP ?_
  unfold v_81_0
  rintro s1 rfl
  refine zc_82 (d := d + 8) hP ?_
  unfold v_82_0
  rintro s2 rfl s3 rfl s4 rfl
  refine ⟨rfl, rfl, rfl, ?_, fun b q hb => ?_⟩
  · rw [zf_1, if_neg (by omega), zf_1, if_neg (by omega), zf_1, if_neg (by omega), zf_1, if_pos ⟨rfl, rfl⟩]
    decide
  · rw [zf_1, if_neg (fun w => hb ⟨w.1, Or.inr (Or.inr (Or.inr w.2))⟩), zf_1, if_neg (fun w => hb ⟨w.1, Or.inr (Or.inr (Or.inl w.2))⟩), zf_1, if_neg (fun w => hb ⟨w.1, Or.inr (Or.inl w.2)⟩), zf_1, if_neg (fun w => hb ⟨w.1, Or.inl w.2⟩)]
theorem zs_122x (hP : P = 3 ∨ P = 39) (hf : ¬ (s.1 P 14).toInt = 0) : Zu (d + 9) [(83, 1), (83, 2)] [(75, 0, P), (75, 1, P + 18), (75, 2, P + 22)] [(83, 2, P + 1), (83, 1, P), (75, 0, P), (75, 1, P + 18), (75, 2, P + 22)] 122 [.ref 83, .ref P] s (fun v s' => v = none ∧ s' = s) := by
  refine zc_122 hP ?_
  unfold v_122_0
  exact ⟨fun w => absurd w hf, fun _ => ⟨rfl, rfl⟩⟩
theorem zs_128x (hP : P = 3 ∨ P = 39) (hf : ¬ (s.1 P 14).toInt = 0) : Zu (d + 9) [(83, 1), (83, 2)] [(75, 0, P), (75, 1, P + 18), (75, 2, P + 22)] [(83, 2, P + 1), (83, 1, P), (75, 0, P), (75, 1, P + 18), (75, 2, P + 22)] 128 [.ref 83, .ref P] s (fun v s' => v = none ∧ s' = s) := by
  refine zc_128 hP ?_
  unfold v_128_0
  refine ⟨fun _ w => w = s, fun _ _ => 0, rfl, ?_⟩
  rintro c2 w rfl
  unfold v_128_7 v_128_56
  exact ⟨fun _ => ⟨rfl, rfl⟩, fun _ => ⟨fun _ => ⟨rfl, rfl⟩, fun z => absurd z hf⟩⟩
theorem zs_5x (hP : P = 3 ∨ P = 39) (hf : ¬ (s.1 P 14).toInt = 0) : Zu (d + 9) [(84, 2), (84, 3), (84, 4), (83, 1), (83, 2)] [(75, 0, P), (75, 1, P + 18), (75, 2, P + 22)] [(83, 2, P + 1), (83, 1, P), (84, 4, P + 4), (84, 3, P + 1), (84, 2, P), (75, 0, P), (75, 1, P + 18), (75, 2, P + 22)] 5 [.ref 84, .ref P] s (fun v s' => v = none ∧ s' = s) := by
  refine zc_5 hP ?_
  unfold v_5_0
  refine ⟨fun _ w => w = s, fun _ _ => 0, rfl, ?_⟩
  rintro c2 w rfl
  unfold v_5_22 v_5_95
  exact ⟨fun _ => ⟨fun z => absurd z hf, fun _ => ⟨rfl, rfl⟩⟩, fun _ => ⟨fun _ => ⟨fun z => absurd z hf, fun _ => ⟨rfl, rfl⟩⟩, fun z => absurd z hf⟩⟩
/-- arities lie between 0 and 7, whatever stands there -/
theorem ar_INV {h : xH} (hP : P = 3 ∨ P = 39) (hI : INV h) (hz : zI h s) : (∀ c : Int, 0 ≤ KI (s.2 (P + 22)) c ∧ KI (s.2 (P + 22)) c ≤ 7) ∧ ∀ c : Int, 24 ≤ c → KI (s.2 (P + 22)) c = 0 := by
  have key : ∀ a : Nat, a ∈ rowL → ckR a = (0, 7) → lim a = 24 → ∀ i : Nat, (0 ≤ (s.2 a i).toInt ∧ (s.2 a i).toInt ≤ 7) ∧ (24 ≤ i → (s.2 a i).toInt = 0) := fun a ha hc hl i => by
    obtain ⟨-, c, n, f, q1, q2, q3, -, q5⟩ := hI.2.1.1 a ha
    have e := hz.2 a ha i
    unfold rv at e
    rw [q1] at e
    dsimp only at e
    rw [hl] at q3
    by_cases w : i < n
    · rw [if_pos w] at e
      have := (q5 i w).1
      rw [hc] at this
      rw [← e]
      exact ⟨this, fun z => by omega⟩
    · rw [if_neg w] at e
      rw [← e]
      exact ⟨by decide, fun _ => by decide⟩
  have fin : ∀ a : Nat, a = P + 22 → (∀ i : Nat, (0 ≤ (s.2 a i).toInt ∧ (s.2 a i).toInt ≤ 7) ∧ (24 ≤ i → (s.2 a i).toInt = 0)) → (∀ c : Int, 0 ≤ KI (s.2 (P + 22)) c ∧ KI (s.2 (P + 22)) c ≤ 7) ∧ ∀ c : Int, 24 ≤ c → KI (s.2 (P + 22)) c = 0 := fun a ea k => by
    subst ea
    refine ⟨fun c => ?_, fun c hc => ?_⟩
    · by_cases h0 : 0 ≤ c
      · rw [KI_p h0]
        exact (k _).1
      · rw [KI_neg h0]
        decide
    · rw [KI_p (by omega)]
      exact (k _).2 (by omega)
  rcases hP with rfl | rfl
  · exact fin 25 rfl (key 25 (by decide +kernel) (by decide +kernel) (by decide +kernel))
  · exact fin 61 rfl (key 61 (by decide +kernel) (by decide +kernel) (by decide +kernel))
theorem zu_ar {U : List (Nat × Nat)} {c c' : zW} {j : Nat} {vs : List Value} {Q : Option Value → zS → Prop} (hP : P = 3 ∨ P = 39) (h : Zu d U c c' j vs s Q) : Zu d U c c' j vs s (fun v s' => Q v s' ∧ (∀ c : Int, 0 ≤ KI (s'.2 (P + 22)) c ∧ KI (s'.2 (P + 22)) c ≤ 7) ∧ ∀ c : Int, 24 ≤ c → KI (s'.2 (P + 22)) c = 0) := by
  intro hh hI hw
  obtain ⟨v, h', cs, sl, s', h1, h2, h3, h4⟩ := h hh hI hw
  exact ⟨v, h', cs, sl, s', ⟨h1, ar_INV hP h3.1.1 h2.1⟩, h2, h3, h4⟩
/-- the tables behind the reading -/
theorem DB_of (hC : dcC K L lo hi Ls) (hlo : 0 ≤ lo) (hhi : hi ≤ n) (e1 : KI (s.2 (P + 4)) = K) (e2 : KI (s.2 (P + 6)) = L) (e3 : KI (s.2 (P + 10)) = W) (hS : SMz P s K W n) (hR : RWz K L P s m Ls) (hA : ALz K L P s m Ls) (h24 : kTy K Ls ≤ 24) : DBz K L W (KI (s.2 (P + 22))) (kdF K L Ls) n P s (tnF K Ls) := by
  have hl : (tnF K Ls).length = kTy K Ls := by unfold tnF; rw [List.length_map, tyL_len]
  refine ⟨⟨e1, e2, e3, rfl⟩, hS, ⟨by rw [hl]; exact hR.1.1, by rw [hl]; exact h24, fun i u hu => ?_⟩, fun c c0 c1 => ?_, fun c hc => kdF_no (by rw [hl] at hc; exact hc)⟩
  · unfold tnF at hu
    rw [List.getElem?_map] at hu
    obtain ⟨t, ht, rfl⟩ := Option.map_eq_some_iff.mp hu
    have hm : t + 1 ∈ tNm K Ls := by
      unfold tNm
      exact List.mem_map.mpr ⟨t, List.mem_of_getElem? ht, rfl⟩
    obtain ⟨j, g1, g2, g3⟩ := tyL_inv Ls i t ht
    obtain ⟨-, -, ⟨f0, -⟩, -⟩ := (hA j t g1).2 g2
    refine ⟨?_, tNm_w hC hlo hhi _ hm⟩
    rw [g3, show (0 : Int) = ((0 : Nat) : Int) from rfl, tyc_n]
    exact f0
  · rw [hl] at c1
    obtain ⟨i, t, g1, g2, rfl⟩ := ty_dc c0 c1
    rw [kdF_at g1 g2]
    obtain ⟨-, -, ⟨-, f1, -⟩, -⟩ := (hA i t g1).2 g2
    have e : tyc s P (kTy K (Ls.take i) : Int) 1 = if tSt K L false (0, t) = true then 4 else 5 := by
      rw [show (1 : Int) = ((1 : Nat) : Int) from rfl, tyc_n]
      exact f1
    rw [e]
    by_cases w : tSt K L false (0, t) = true
    · rw [if_pos w, if_pos w]
      exact Or.inl ⟨rfl, rfl⟩
    · rw [if_neg w, if_neg w]
      exact Or.inr ⟨rfl, rfl⟩
/-- behind the telling, with where it ends -/
theorem CS_k (hP : P = 3 ∨ P = 39) (hC : dcC K L lo hi Ls) (hlo : 0 ≤ lo) (hhi : hi ≤ 4000) (hm : m ≤ 4000) (hD : DBz K L W ar kd n P s TN) (hS : SGz P s) (hR : RWz K L P s m Ls) (hA : ALz K L P s m Ls) (hT : TAf P s u) (h3 : TA3 K L W ar kd TN P hi Ls Ls.length u) : CSz K L W ar kd TN Ls n (u.1 P 10).toInt P u ∧ 18738 ≤ (u.1 P 10).toInt := by
  obtain ⟨-, ⟨mi, m1, m2, m3, m4⟩, t3, t4⟩ := h3
  rw [List.take_length] at t3 t4
  have hle := srtQ_le m4
  obtain ⟨⟨z1, z2, z3, z4, z5⟩, w1, w2, w3, -⟩ := hR
  have hW := hD.1.2.2.1
  have ed : ∀ i c, dcl u P i c = dcl s P i c := fun i c => by
    unfold dcl
    rw [TAf_r hT (by decide) (by decide) (by decide) (by decide) (by decide)]
  refine ⟨⟨DBz_f hP hT hD, fun i hi => ?_, t4, SLc_f hT (SLc_of w1).1, ⟨t3, by omega⟩, fun i t h1 => ⟨?_, fun j q h2 => ?_⟩, ⟨?_, ?_, ?_⟩, by omega, by omega⟩, m2⟩
  · rw [← hS i hi, KI_n, KI_n, hT.2.2.1 i (by omega)]
  · obtain ⟨cF, cT⟩ := CDc_of (W := W) hC hA hW h1
    refine ⟨fun h6 => ?_, fun h6 => ?_⟩
    · rw [ed, ed, ed, TAf_fn hT (by omega) (by decide) (by decide) (by decide), TAf_fn hT (by omega) (by decide) (by decide) (by decide), TAf_fn hT (by omega) (by decide) (by decide) (by decide), TAf_fn hT (by omega) (by decide) (by decide) (by decide), TAf_fn hT (by omega) (by decide) (by decide) (by decide), TAf_fn hT (by omega) (by decide) (by decide) (by decide), TAf_fn hT (by omega) (by decide) (by decide) (by decide)]
      exact cF h6
    · rw [ed, ed, ed, TAf_ty hT (by omega) (by decide), TAf_ty hT (by omega) (by decide), TAf_ty hT (by omega) (by decide), TAf_ty hT (by omega) (by decide)]
      exact cT h6
  · obtain ⟨j0, g1, g2⟩ := CHd_of hC hA hW h1 h2
    refine ⟨j0, ?_, g2⟩
    rw [TAf_sg hT, TAf_sg hT, TAf_sg hT, TAf_sg hT, TAf_sg hT]
    exact g1
  · unfold zsz at *
    rw [hT.1 (P + 24) 2 (fun w => by omega) (fun w => by omega)]
    exact z1
  · unfold zsz at *
    rw [hT.1 (P + 26) 2 (fun w => by omega) (fun w => by omega)]
    exact z2
  · unfold zsz at *
    rw [hT.1 (P + 32) 2 (fun w => by omega) (fun w => by omega)]
    exact z5
theorem rw_b : ∀ r ∈ rwL, 24 ≤ r ∧ r ≤ 32 := by decide
theorem ffs_1 {x : Int} {l : List Int} (h : ¬ x = 0) : ffs (x :: l) = x := if_neg h
theorem ffs_2 {x : Int} {l : List Int} (h : x = 0) : ffs (x :: l) = ffs l := if_pos h
end ZZU
