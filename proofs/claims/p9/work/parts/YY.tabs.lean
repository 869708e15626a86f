/-! ===== a program's tables, by its declarations ===== -/
/-- for each HEAD: its name, its declaration, how many types and funcs stand ahead -/
def hdX (K L : Int → Int) : Nat → Nat → List Int → List (Int × Int × Nat × Nat)
  | _, _, [] => []
  | T, F, t :: l => (dHd K L t).map (fun q => (q, t, T, F)) ++ hdX K L (T + (if K t = 6 then 0 else 1)) (F + (if K t = 6 then 1 else 0)) l
/-- for each type, each func: how many HEADS stand ahead -/
def tyX (K L : Int → Int) : Nat → List Int → List Nat
  | _, [] => []
  | h, t :: l => (if K t = 6 then [] else [h]) ++ tyX K L (h + (dHd K L t).length) l
def fnX (K L : Int → Int) : Nat → List Int → List Nat
  | _, [] => []
  | h, t :: l => (if K t = 6 then [h] else []) ++ fnX K L (h + (dHd K L t).length) l
section YYX
variable {K L : Int → Int}
theorem hdX_len : ∀ (l : List Int) (T F : Nat), (hdX K L T F l).length = kHd K L l
  | [], _, _ => rfl
  | t :: l, T, F => by
    show ((dHd K L t).map (fun q => (q, t, T, F)) ++ hdX K L (T + (if K t = 6 then 0 else 1)) (F + (if K t = 6 then 1 else 0)) l).length = (if K t = 6 then 1 else tNh K L false (0, t)) + kHd K L l
    rw [List.length_append, List.length_map, hdX_len l, dHd_len]
theorem hdX_at : ∀ (l : List Int) (i j T F : Nat) (t q : Int), l[i]? = some t → (dHd K L t)[j]? = some q → (hdX K L T F l)[kHd K L (l.take i) + j]? = some (q, t, T + kTy K (l.take i), F + kFn K (l.take i))
  | [], i, j, T, F, t, q, h, _ => by cases h
  | a :: l, 0, j, T, F, t, q, h, g => by
    have e : a = t := by simpa using h
    have hj := (List.getElem?_eq_some_iff.mp g).1
    show ((dHd K L a).map (fun q => (q, a, T, F)) ++ hdX K L _ _ l)[0 + j]? = some (q, t, T + 0, F + 0)
    rw [e, Nat.zero_add, List.getElem?_append_left (by rw [List.length_map]; exact hj), List.getElem?_map, g]
    rfl
  | a :: l, i + 1, j, T, F, t, q, h, g => by
    have ih := hdX_at l i j (T + (if K a = 6 then 0 else 1)) (F + (if K a = 6 then 1 else 0)) t q h g
    show ((dHd K L a).map (fun q => (q, a, T, F)) ++ hdX K L _ _ l)[(if K a = 6 then 1 else tNh K L false (0, a)) + kHd K L (l.take i) + j]? = some (q, t, T + ((if K a = 6 then 0 else 1) + kTy K (l.take i)), F + ((if K a = 6 then 1 else 0) + kFn K (l.take i)))
    rw [← dHd_len, Nat.add_assoc, app_at (by rw [List.length_map]), ih, Nat.add_assoc, Nat.add_assoc]
theorem hdX_inv : ∀ (l : List Int) (h T F : Nat) (x : Int × Int × Nat × Nat), (hdX K L T F l)[h]? = some x → ∃ (i j : Nat), l[i]? = some x.2.1 ∧ (dHd K L x.2.1)[j]? = some x.1 ∧ h = kHd K L (l.take i) + j ∧ x.2.2 = (T + kTy K (l.take i), F + kFn K (l.take i))
  | [], h, T, F, x, g => by cases g
  | a :: l, h, T, F, x, g => by
    have g' : ((dHd K L a).map (fun q => (q, a, T, F)) ++ hdX K L (T + (if K a = 6 then 0 else 1)) (F + (if K a = 6 then 1 else 0)) l)[h]? = some x := g
    rcases Nat.lt_or_ge h (dHd K L a).length with w | w
    · rw [List.getElem?_append_left (by rw [List.length_map]; exact w), List.getElem?_map, List.getElem?_eq_getElem w] at g'
      have e : ((dHd K L a)[h], a, T, F) = x := Option.some.inj g'
      refine ⟨0, h, ?_, ?_, ?_, ?_⟩
      · rw [← e]
        rfl
      · rw [← e]
        exact List.getElem?_eq_getElem w
      · show h = 0 + h
        omega
      · rw [← e]
        rfl
    · rw [List.getElem?_append_right (by rw [List.length_map]; exact w), List.length_map] at g'
      obtain ⟨i, j, h1, h2, h3, h4⟩ := hdX_inv l _ _ _ x g'
      refine ⟨i + 1, j, h1, h2, ?_, ?_⟩
      · show h = (if K a = 6 then 1 else tNh K L false (0, a)) + kHd K L (l.take i) + j
        rw [← dHd_len]
        omega
      · rw [h4]
        show _ = (T + ((if K a = 6 then 0 else 1) + kTy K (l.take i)), F + ((if K a = 6 then 1 else 0) + kFn K (l.take i)))
        rw [Nat.add_assoc, Nat.add_assoc]
theorem tyX_at : ∀ (l : List Int) (i h : Nat) (t : Int), l[i]? = some t → ¬ K t = 6 → (tyX K L h l)[kTy K (l.take i)]? = some (h + kHd K L (l.take i))
  | [], i, h, t, g, _ => by cases g
  | a :: l, 0, h, t, g, n => by
    have e : a = t := by simpa using g
    show ((if K a = 6 then [] else [h]) ++ tyX K L _ l)[0]? = some (h + 0)
    rw [e, if_neg n]
    rfl
  | a :: l, i + 1, h, t, g, n => by
    have ih := tyX_at l i (h + (dHd K L a).length) t g n
    show ((if K a = 6 then [] else [h]) ++ tyX K L (h + (dHd K L a).length) l)[(if K a = 6 then 0 else 1) + kTy K (l.take i)]? = some (h + ((if K a = 6 then 1 else tNh K L false (0, a)) + kHd K L (l.take i)))
    rw [← dHd_len, ← Nat.add_assoc, app_at (by split <;> rfl)]
    exact ih
theorem fnX_at : ∀ (l : List Int) (i h : Nat) (t : Int), l[i]? = some t → K t = 6 → (fnX K L h l)[kFn K (l.take i)]? = some (h + kHd K L (l.take i))
  | [], i, h, t, g, _ => by cases g
  | a :: l, 0, h, t, g, n => by
    have e : a = t := by simpa using g
    show ((if K a = 6 then [h] else []) ++ fnX K L _ l)[0]? = some (h + 0)
    rw [e, if_pos n]
    rfl
  | a :: l, i + 1, h, t, g, n => by
    have ih := fnX_at l i (h + (dHd K L a).length) t g n
    show ((if K a = 6 then [h] else []) ++ fnX K L (h + (dHd K L a).length) l)[(if K a = 6 then 1 else 0) + kFn K (l.take i)]? = some (h + ((if K a = 6 then 1 else tNh K L false (0, a)) + kHd K L (l.take i)))
    rw [← dHd_len, ← Nat.add_assoc, app_at (by split <;> rfl)]
    exact ih
end YYX
/-- the codes of the TYPE at token t -/
def wdC (K L W ar : Int → Int) (TN hf tp : List Int) (t : Int) : List Int := (tlT K L (cdOf W hf tp TN) ar 10 t).2.map Prod.fst
section YYD
variable (K L W ar : Int → Int) (TN Ls : List Int)
/-- BOUNDS of a type's FORMALS -/
def Bfd (c : Int) : List (List Int) := if 0 ≤ c then (match (tyL K Ls)[c.toNat]? with
  | some t => (tFo K L false (0, t)).map (fun v => wdC K L W ar TN [] (tFo K L false (0, t)) (v + 1))
  | none => []) else []
/-- HEADS: how many FORMALS, VARS; all TYPES -/
def hdd (h : Nat) : Nat × Nat × List (List Int) := match (hdX K L 0 0 Ls)[h]? with
  | some x => ((h_f K L (0, x.1 + 1)).length, (h_v K L (0, x.1 + 1)).length, (hSlt K L (h : Int) (0, x.1 + 1)).map (fun q => wdC K L W ar TN (h_f K L (0, x.1 + 1)) (dTp K L x.2.1) q.2.2.1))
  | none => (0, 0, [])
def hbd (h : Nat) : Int := match (hdX K L 0 0 Ls)[h]? with
  | some x => if K x.2.1 = 6 then 4000 + 6 * (x.2.2.2 : Int) else 1000 + 6 * (x.2.2.1 : Int)
  | none => 0
def owd (h : Nat) : Int := match (hdX K L 0 0 Ls)[h]? with
  | some x => if K x.2.1 = 6 then fcd K L W TN x.2.1 else (x.2.2.1 : Int)
  | none => 0
def hwd (h : Nat) : Int := match (hdX K L 0 0 Ls)[h]? with
  | some x => W x.1
  | none => 0
def fsd (f : Nat) : Nat := (fnX K L 0 Ls).getD f 0
def tmd (c : Int) : Nat := (tyX K L 0 Ls).getD c.toNat 0
def tnd (c : Int) : Nat := match (tyL K Ls)[c.toNat]? with
  | some t => (tMe K L false (0, t)).length
  | none => 0
end YYD
/-- a program whose names are told once and whose TYPES are told -/
def PRm (K L W ar kd : Int → Int) (n lo hi : Int) (TN Ls : List Int) : Prop := (TXp K L n ∧ dcC K L lo hi Ls ∧ 0 ≤ lo ∧ hi ≤ n) ∧ TN = (tyL K Ls).map (fun t => t + 1) ∧ (kTy K Ls ≤ 24 ∧ kFn K Ls ≤ 60) ∧ ((∀ c, 0 ≤ ar c ∧ ar c ≤ 7) ∧ ∀ c, 24 ≤ c → ar c = 0) ∧ (∀ (i : Nat) (t : Int), Ls[i]? = some t → ¬ K t = 6 → ar (kTy K (Ls.take i) : Int) = ((tFo K L false (0, t)).length : Int) ∧ kd (kTy K (Ls.take i) : Int) = if tSt K L false (0, t) = true then 1 else 2) ∧ (∀ c : Int, (c < 0 ∨ (kTy K Ls : Int) ≤ c) → kd c = 0) ∧ ffs (alFs K L W ar kd TN (hfS K L Ls) 0 Ls) = 0 ∧ ∀ v, ¬ SA W K L Ls v
section YYP
variable {K L W ar kd : Int → Int} {n lo hi : Int} {TN Ls : List Int} {i j : Nat} {t q : Int} {hf tp : List Int}
theorem tb_ty (h1 : Ls[i]? = some t) (h6 : ¬ K t = 6) : Bfd K L W ar TN Ls (kTy K (Ls.take i) : Int) = (tFo K L false (0, t)).map (fun v => wdC K L W ar TN [] (tFo K L false (0, t)) (v + 1)) ∧ tmd K L Ls (kTy K (Ls.take i) : Int) = kHd K L (Ls.take i) ∧ tnd K L Ls (kTy K (Ls.take i) : Int) = (tMe K L false (0, t)).length := by
  have e1 := tyL_at Ls i t h1 h6
  have e2 := tyX_at (L := L) Ls i 0 t h1 h6
  refine ⟨?_, ?_, ?_⟩
  · unfold Bfd
    rw [if_pos (by omega), Int.toNat_natCast, e1]
  · unfold tmd
    rw [Int.toNat_natCast, List.getD_eq_getElem?_getD, e2]
    show 0 + kHd K L (Ls.take i) = _
    omega
  · unfold tnd
    rw [Int.toNat_natCast, e1]
theorem tb_hd (h1 : Ls[i]? = some t) (h2 : (dHd K L t)[j]? = some q) : hdd K L W ar TN Ls (kHd K L (Ls.take i) + j) = ((h_f K L (0, q + 1)).length, (h_v K L (0, q + 1)).length, (hSlt K L ((kHd K L (Ls.take i) + j : Nat) : Int) (0, q + 1)).map (fun x => wdC K L W ar TN (h_f K L (0, q + 1)) (dTp K L t) x.2.2.1)) ∧ hbd K L Ls (kHd K L (Ls.take i) + j) = (if K t = 6 then 4000 + 6 * (kFn K (Ls.take i) : Int) else 1000 + 6 * (kTy K (Ls.take i) : Int)) ∧ owd K L W TN Ls (kHd K L (Ls.take i) + j) = (if K t = 6 then fcd K L W TN t else (kTy K (Ls.take i) : Int)) ∧ hwd K L W Ls (kHd K L (Ls.take i) + j) = W q := by
  have e1 := hdX_at Ls i j 0 0 t q h1 h2
  rw [Nat.zero_add, Nat.zero_add] at e1
  refine ⟨?_, ?_, ?_, ?_⟩
  · unfold hdd
    rw [e1]
  · unfold hbd
    rw [e1]
  · unfold owd
    rw [e1]
  · unfold hwd
    rw [e1]
theorem tb_fn (h1 : Ls[i]? = some t) (h6 : K t = 6) : fsd K L Ls (kFn K (Ls.take i)) = kHd K L (Ls.take i) ∧ cfO K L W TN Ls (kFn K (Ls.take i)) = fcd K L W TN t := by
  have e1 := fnL_at Ls i t h1 h6
  have e2 := fnX_at (L := L) Ls i 0 t h1 h6
  refine ⟨?_, ?_⟩
  · unfold fsd
    rw [List.getD_eq_getElem?_getD, e2]
    show 0 + kHd K L (Ls.take i) = _
    omega
  · unfold cfO
    rw [e1]
/-- each HEAD has its declaration -/
theorem hd_dc {h : Nat} (hh : h < kHd K L Ls) : ∃ (i j : Nat) (t q : Int), Ls[i]? = some t ∧ (dHd K L t)[j]? = some q ∧ h = kHd K L (Ls.take i) + j := by
  have hl : h < (hdX K L 0 0 Ls).length := by rw [hdX_len]; exact hh
  obtain ⟨i, j, h1, h2, h3, -⟩ := hdX_inv Ls h 0 0 _ (List.getElem?_eq_getElem hl)
  exact ⟨i, j, _, _, h1, h2, h3⟩
theorem ty_dc {c : Int} (h0 : 0 ≤ c) (h1 : c < (kTy K Ls : Int)) : ∃ (i : Nat) (t : Int), Ls[i]? = some t ∧ ¬ K t = 6 ∧ c = (kTy K (Ls.take i) : Int) := by
  have hl : c.toNat < (tyL K Ls).length := by rw [tyL_len]; omega
  obtain ⟨i, h2, h3, h4⟩ := tyL_inv Ls c.toNat _ (List.getElem?_eq_getElem hl)
  exact ⟨i, _, h2, h3, by omega⟩
theorem fn_dc {f : Nat} (h1 : f < kFn K Ls) : ∃ (i : Nat) (t : Int), Ls[i]? = some t ∧ K t = 6 ∧ f = kFn K (Ls.take i) := by
  have hl : f < (fnL K Ls).length := by rw [fnL_len]; exact h1
  obtain ⟨i, h2, h3, h4⟩ := fnL_inv Ls f _ (List.getElem?_eq_getElem hl)
  exact ⟨i, _, h2, h3, h4⟩
/-- the faults of a declaration are none -/
theorem dFs_0 (h : PRm K L W ar kd n lo hi TN Ls) (h1 : Ls[i]? = some t) : ∀ v ∈ dFs K L W ar kd TN (hfS K L Ls) (kHd K L (Ls.take i) : Int) t, v = 0 := by
  obtain ⟨-, -, -, -, -, -, h7, -⟩ := h
  have key : ∀ (l : List Int) (i : Nat) (h0 : Int), l[i]? = some t → ∀ v ∈ dFs K L W ar kd TN (hfS K L Ls) (h0 + (kHd K L (l.take i) : Int)) t, v ∈ alFs K L W ar kd TN (hfS K L Ls) h0 l := by
    intro l
    induction l with
    | nil => intro i h0 g; cases g
    | cons a l ih =>
      intro i h0 g v hv
      show v ∈ dFs K L W ar kd TN (hfS K L Ls) h0 a ++ alFs K L W ar kd TN (hfS K L Ls) (h0 + ((dHd K L a).length : Int)) l
      cases i with
      | zero =>
        have e : a = t := by simpa using g
        refine List.mem_append_left _ ?_
        rw [e]
        rw [show h0 + (kHd K L ((a :: l).take 0) : Int) = h0 by show h0 + ((0 : Nat) : Int) = h0; omega] at hv
        exact hv
      | succ i =>
        refine List.mem_append_right _ (ih i _ g v ?_)
        rw [show h0 + ((dHd K L a).length : Int) + (kHd K L (l.take i) : Int) = h0 + (kHd K L ((a :: l).take (i + 1)) : Int) by
          show _ = h0 + (((if K a = 6 then 1 else tNh K L false (0, a)) + kHd K L (l.take i) : Nat) : Int)
          rw [← dHd_len]
          omega]
        exact hv
  intro v hv
  refine ffs_0.mp h7 v (key Ls i 0 h1 v ?_)
  rw [Int.zero_add]
  exact hv
/-- a slot's TYPE was told -/
theorem slot_ok (h : PRm K L W ar kd n lo hi TN Ls) (h1 : Ls[i]? = some t) {x : Int × Int × Int × Int} (hx : x ∈ sDc K L (kHd K L (Ls.take i) : Int) t) (hx0 : 0 ≤ x.2.2.1) : (tlT K L (cdOf W (hfS K L Ls x.2.2.2) (dTp K L t) TN) ar 10 x.2.2.1).1 = 0 ∧ (p_t K L 10 false (0, x.2.2.1)).1 = 0 ∧ (lo ≤ x.2.2.1 ∧ nxT K L x.2.2.1 ≤ hi) ∧ (x.2.1 = 0 → kd (cdOf W (hfS K L Ls x.2.2.2) (dTp K L t) TN x.2.2.1) = 2) := by
  have e0 : slF K L W ar kd (dTp K L t) TN (hfS K L Ls) x = 0 := dFs_0 h h1 _ (List.mem_append_right _ (List.mem_map.mpr ⟨x, hx, rfl⟩))
  obtain ⟨⟨hX, hC, -⟩, -⟩ := h
  obtain ⟨jj, hj⟩ := List.getElem?_of_mem hx
  have hat := aSl_at (K := K) (L := L) Ls i jj 0 t x h1 (by rw [Int.zero_add]; exact hj)
  obtain ⟨a, b, s1, s2, s3, s4, s5, s6⟩ := srtQ_at _ lo hi _ x (srt_al Ls lo hi 0 hC) hat
  obtain ⟨s7, s8, s9⟩ := s5 hx0
  have e1 : slF K L W ar kd (dTp K L t) TN (hfS K L Ls) x = if (tlT K L (cdOf W (hfS K L Ls x.2.2.2) (dTp K L t) TN) ar 10 x.2.2.1).1 = 0 then (if x.2.1 = 0 ∧ ¬ kd (cdOf W (hfS K L Ls x.2.2.2) (dTp K L t) TN x.2.2.1) = 2 then 6 + 16 * L x.2.2.1 else 0) else (tlT K L (cdOf W (hfS K L Ls x.2.2.2) (dTp K L t) TN) ar 10 x.2.2.1).1 := if_neg (by omega)
  rw [e1] at e0
  by_cases h0 : (tlT K L (cdOf W (hfS K L Ls x.2.2.2) (dTp K L t) TN) ar 10 x.2.2.1).1 = 0
  · rw [if_pos h0] at e0
    refine ⟨h0, s9, ⟨by omega, by omega⟩, fun hk => ?_⟩
    by_cases h2 : kd (cdOf W (hfS K L Ls x.2.2.2) (dTp K L t) TN x.2.2.1) = 2
    · exact h2
    · rw [if_pos ⟨hk, h2⟩] at e0
      omega
  · rw [if_neg h0] at e0
    exact absurd e0 h0
theorem cdP_of (l1 : hf.length ≤ 6) (l2 : tp.length ≤ 6) (l3 : TN.length ≤ 24) (h0 : 0 ≤ cdOf W hf tp TN t) : cdP (TN.length : Int) (tp.length : Int) (hf.length : Int) (cdOf W hf tp TN t) := by
  obtain ⟨-, c2, c3, c4⟩ := cdOf_b (W := W) (t := t) l1 l2 l3
  refine ⟨h0, c2, fun w1 w2 => ?_, fun w1 => ?_, c4⟩
  · rcases c3 w1 with q | q
    · omega
    · omega
  · rcases c3 (by omega) with q | q
    · omega
    · omega
/-- a told TYPE in its scope -/
theorem wdC_ok (ha : ∀ c, 0 ≤ ar c ∧ ar c ≤ 7) (l1 : hf.length ≤ 6) (l2 : tp.length ≤ 6) (l3 : TN.length ≤ 24) (h0 : (tlT K L (cdOf W hf tp TN) ar 10 t).1 = 0) (hp : (p_t K L 10 false (0, t)).1 = 0) : isR ar 1 (wdC K L W ar TN hf tp t) ∧ (wdC K L W ar TN hf tp t).length ≤ 60 ∧ cdW (tp.length : Int) (hf.length : Int) (wdC K L W ar TN hf tp t) ∧ cdT (TN.length : Int) (wdC K L W ar TN hf tp t) ∧ (wdC K L W ar TN hf tp t).headD 0 = cdOf W hf tp TN t := by
  have hP := tlT_P (K := K) (L := L) (ar := ar) (cd := cdOf W hf tp TN) (P := cdP (TN.length : Int) (tp.length : Int) (hf.length : Int)) (fun t h => cdP_of l1 l2 l3 h) 10 t h0
  obtain ⟨⟨r1, r2⟩, r3⟩ := tlT_R (K := K) (L := L) (cd := cdOf W hf tp TN) (fun t => (cdOf_b (W := W) (t := t) l1 l2 l3).2.1) (fun c => (ha c).1) 10 t (by decide) hp h0
  refine ⟨r1, ?_, fun v hv => ?_, fun v hv => ?_, ?_⟩
  · unfold wdC
    rw [List.length_map]
    exact r3
  · obtain ⟨x, hx, rfl⟩ := List.mem_map.mp hv
    obtain ⟨k1, k2, k3, k4, k5⟩ := hP x hx
    exact ⟨k1, k2, k3, k4⟩
  · obtain ⟨x, hx, rfl⟩ := List.mem_map.mp hv
    exact (hP x hx).2.2.2.2
  · obtain ⟨-, -, q3⟩ := tlT_ok (m := 9) h0
    unfold wdC
    rw [q3]
    rfl
end YYP
