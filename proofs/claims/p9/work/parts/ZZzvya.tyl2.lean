/-! ===== the reference: the TYPES of E: bounds, FIELDS, METHODS ===== -/
section ZVYA
variable {K L W ar kd : Int → Int} {TN Ls : List Int} {nI lo' hi' B0 bI : Int} {own : Nat → Nat × Nat} {b n N T F H S0 : Nat} {G : PG} {s : yS} {Ag β0 β1 : Int} {S' : Scp} {S O : Nat} {A0 A1 : Int} {A M : List Nat} {Ai : List Int} {a e y' : Int} {evT : Int → Int × List Int} {sc : Nat → Prop}
theorem enG_1 {γ0 γ1 : Int} {c : Int} : enN ar γ0 γ1 [c] = [(rhE ar γ0 γ1 c).toNat] := rfl
set_option maxHeartbeats 2000000 in
/-- the BOUND of a PARAM -/
theorem bd_en (hPR : PRm K L W ar kd nI lo' hi' TN Ls) (hG : PGr ar kd (cfO K L W TN Ls) (fsd K L Ls) (kFn K Ls) (kHd K L Ls) (TN.length : Int) (tmd K L Ls) (tnd K L Ls) (hdd K L W ar TN Ls) (hbd K L Ls) (owd K L W TN Ls) (hwd K L W Ls) (Bfd K L W ar TN Ls) (b : Int) Ag s) (hC : CK own b n N T F H S0 G s) (hTn : (T : Int) = (TN.length : Int)) (hFn : F = kFn K Ls) (hW : EWd K L W ar kd TN Ls nI lo' hi' B0 bI β0 β1 S') (hβ : S'.2.1.length = 0 ∨ 4000 ≤ β0) (hSH : ∀ h : Nat, β1 = 2000 + 6 * (h : Int) → 0 < S'.1.length → h < H) {c : Int} (hc : 24 ≤ c ∧ c < 36) (hX : c < 30 → c - 24 < (S'.2.1.length : Int)) (hY : 30 ≤ c → c - 30 < (S'.1.length : Int)) : bdT G 0 (rhC β0 β1 c).toNat = enN ar β0 β1 (S'.2.2.1 c) := by
  obtain ⟨ha, h24⟩ := PR_ar hPR
  obtain ⟨-, hS, ⟨hbo, p2, p3⟩, -⟩ := hW
  obtain ⟨-, -, -, ⟨l1, l2, l3⟩, -⟩ := hS
  have hbo' := hbo
  unfold bOK at hbo'
  by_cases h30 : c < 30
  · have hx := hX h30
    obtain ⟨c0, c1, c2, c3, c4⟩ := p2.resolve_left (by omega)
    obtain ⟨f, f1, f2, f3⟩ := c4.resolve_left (by clear c4 p2; omega)
    obtain ⟨k, hk⟩ : ∃ k : Nat, c = 24 + (k : Int) := ⟨(c - 24).toNat, by omega⟩
    subst hk
    have er : (rhC β0 β1 (24 + (k : Int))).toNat = 4000 + 6 * f + k := by
      unfold rhC
      rw [if_neg (by omega), if_pos h30]
      omega
    obtain ⟨u1, u2, u3, u4, u5, u6, u7, u8, u9, u10⟩ := gu_en hG hC (f := f) (by omega)
    have eg : (gso G f : Int) = c0 := by rw [u4, f2]
    obtain ⟨t1, t2, t3, t4, -⟩ := gt_en hG hC (c := gso G f) u9 (by omega)
    rw [eg] at t3 t4
    have hk6 : k < 6 := by omega
    rw [er]
    unfold bdT
    rw [if_neg (by omega), if_neg (by omega), show (4000 + 6 * f + k - 4000) / 6 = f by omega, show (4000 + 6 * f + k - 4000) % 6 = k by omega, t4 k (by omega), c3 k (by omega)]
    obtain ⟨Bk, hBk⟩ : ∃ Bk, Bk = (Bfd K L W ar TN Ls c0).getD k [] := ⟨_, rfl⟩
    rw [← hBk]
    obtain ⟨-, g2, -⟩ := hG
    obtain ⟨-, -, k3, k4, -⟩ := g2 c0 c1.1 c1.2
    have hBm : Bk ∈ Bfd K L W ar TN Ls c0 := by
      rw [hBk, List.getD_eq_getElem?_getD, List.getElem?_eq_getElem (show k < (Bfd K L W ar TN Ls c0).length by omega)]
      exact List.getElem_mem _
    have hcd := (k4 Bk hBm).1
    obtain ⟨X, hXe⟩ : ∃ X : List (List Int), X = (List.range (gfm G (gso G f))).map (fun p : Nat => [24 + (p : Int)]) := ⟨_, rfl⟩
    have lX : X.length = gfm G (gso G f) := by rw [hXe, List.length_map, List.length_range]
    have ep : prm f (gfm G (gso G f)) = X.map (enN ar β0 β1) := by
      unfold prm
      rw [hXe, List.map_map]
      refine List.map_congr_left (fun p hp => ?_)
      have hpl := List.mem_range.mp hp
      show [8 * (4000 + 6 * f + p)] = [(rhE ar β0 β1 (24 + (p : Int))).toNat]
      have : rhE ar β0 β1 (24 + (p : Int)) = 8 * (β0 + (p : Int)) + 0 := by
        unfold rhE rhC
        rw [if_neg (by omega), if_pos (by omega), h24 (24 + (p : Int)) (by omega), show β0 + (24 + (p : Int) - 24) = β0 + (p : Int) by omega]
      rw [this]
      congr 1
      omega
    have hs := subs_enG (γ0 := β0) (γ1 := β1) (b0 := 1000 + 6 * gso G f) (b1 := 2000) (X := X) (Y := []) ha (by unfold bOK; omega) (by omega) Bk (by rw [lX, t3]; exact hcd)
    rw [show ((1000 + 6 * gso G f : Nat) : Int) = 1000 + 6 * c0 by omega, show ((2000 : Nat) : Int) = 2000 from rfl] at hs
    rw [ep, envS_b1 (b1 := 0) (b2 := 2000)]
    refine Eq.trans hs ?_
    congr 1
    refine sbs_idp (fun p => ?_) Bk
    unfold eta
    by_cases p6 : p < 6
    · rw [if_pos p6]
      by_cases pl : p < X.length
      · rw [if_pos pl, List.getD_eq_getElem?_getD, hXe, List.getElem?_map, List.getElem?_range (by omega)]
        rfl
      · rw [if_neg pl]
    · rw [if_neg p6, if_neg (by show ¬ p - 6 < 0; omega)]
  · have hy := hY (by omega)
    obtain ⟨h, g1, g2, g3, g4, g5, g6⟩ := p3.resolve_left (by omega)
    obtain ⟨k, hk⟩ : ∃ k : Nat, c = 30 + (k : Int) := ⟨(c - 30).toNat, by omega⟩
    subst hk
    have hH := hSH h g3 (by omega)
    obtain ⟨e1, e2, e3, e4, e5, e6⟩ := gh_en hG hC hH g1
    have er : (rhC β0 β1 (30 + (k : Int))).toNat = 2000 + 6 * h + k := by
      unfold rhC
      rw [if_neg (by omega), if_neg (by omega), if_pos (by omega)]
      omega
    rw [er]
    unfold bdT
    rw [if_neg (by omega), if_pos (by omega), show (2000 + 6 * h + k - 2000) / 6 = h by omega, show (2000 + 6 * h + k - 2000) % 6 = k by omega, e4 k (by omega), g6 k (by omega), g4, ← g3]
/-- the TYPE whose METHODS are looked at -/
theorem mid_en (hPR : PRm K L W ar kd nI lo' hi' TN Ls) (hG : PGr ar kd (cfO K L W TN Ls) (fsd K L Ls) (kFn K Ls) (kHd K L Ls) (TN.length : Int) (tmd K L Ls) (tnd K L Ls) (hdd K L W ar TN Ls) (hbd K L Ls) (owd K L W TN Ls) (hwd K L W Ls) (Bfd K L W ar TN Ls) (b : Int) Ag s) (hC : CK own b n N T F H S0 G s) (hTn : (T : Int) = (TN.length : Int)) (hFn : F = kFn K Ls) (hW : EWd K L W ar kd TN Ls nI lo' hi' B0 bI β0 β1 S') (hβ : S'.2.1.length = 0 ∨ 4000 ≤ β0) (hSH : ∀ h : Nat, β1 = 2000 + 6 * (h : Int) → 0 < S'.1.length → h < H) (hA : TGo ar (TN.length : Int) (S'.2.1.length : Int) (S'.1.length : Int) Ai) (hm : midT G (enN ar β0 β1 Ai) M) : M = enN ar β0 β1 (ownT S'.2.2.1 Ai) := by
  obtain ⟨ha, h24⟩ := PR_ar hPR
  have hbo := hW.2.2.1.1
  unfold bOK at hbo
  have hγ : 0 ≤ β0 ∧ 0 ≤ β1 := by omega
  cases Ai with
  | nil => exact absurd rfl (isR_ne hA.1)
  | cons c l =>
    obtain ⟨c1, c2, c3, c4⟩ := hA.2.2 c List.mem_cons_self
    have cl : ∀ x ∈ c :: l, 0 ≤ x := fun x hx => (hA.2.2 x hx).1
    obtain ⟨r1, r2, r3⟩ := rhE_nat (γ0 := β0) (γ1 := β1) ha hγ c1
    by_cases q : c < 24
    · have eo : ownT S'.2.2.1 (c :: l) = c :: l := if_pos q
      rcases hm with ⟨-, h⟩ | ⟨d, d1, d2, -⟩
      · rw [h, eo]
      · have e1 : (rhE ar β0 β1 c).toNat = 8 * d := (List.cons.inj d2).1
        have : rhC β0 β1 c = c := by
          unfold rhC
          rw [if_pos q]
        omega
    · have eo : ownT S'.2.2.1 (c :: l) = S'.2.2.1 c := if_neg q
      have hr : 1000 ≤ rhC β0 β1 c := by
        unfold rhC
        rw [if_neg q]
        split
        · omega
        · omega
      rcases hm with ⟨⟨x, As, h1, h2⟩, -⟩ | ⟨d, d1, d2, d3⟩
      · obtain ⟨e1, -⟩ := cut_arG ha hγ hA.1 cl h1
        rw [e1] at h2
        omega
      · have e1 : (rhE ar β0 β1 c).toNat = 8 * d := (List.cons.inj d2).1
        have ha0 := h24 c (by omega)
        rw [d3, eo, show d = (rhC β0 β1 c).toNat by omega]
        exact bd_en hPR hG hC hTn hFn hW hβ hSH ⟨by omega, c2⟩ (fun w => c3 (by omega) w) (fun w => c4 w)
set_option maxHeartbeats 4000000 in
/-- a METHOD: the TYPES that are told, its own TYPE, which HEAD -/
theorem me_en {hi eN : Nat} {A0' : List Nat} {Q : Nat → Nat → Nat → List Nat → Prop} (hPR : PRm K L W ar kd nI lo' hi' TN Ls) (hG : PGr ar kd (cfO K L W TN Ls) (fsd K L Ls) (kFn K Ls) (kHd K L Ls) (TN.length : Int) (tmd K L Ls) (tnd K L Ls) (hdd K L W ar TN Ls) (hbd K L Ls) (owd K L W TN Ls) (hwd K L W Ls) (Bfd K L W ar TN Ls) (b : Int) Ag s) (hC : CK own b n N T F H S0 G s) (hTn : (T : Int) = (TN.length : Int)) (hFn : F = kFn K Ls) (hw : ∀ q0, wTk K nI q0 → ∀ h : Nat, h < kHd K L Ls → (wHr (b : Int) s h = (s.2.1 217 (4002 * (b : Int) + q0).toNat).toInt ↔ hwd K L W Ls h = W q0)) (hW : EWd K L W ar kd TN Ls nI lo' hi' B0 bI β0 β1 S') (hβ : S'.2.1.length = 0 ∨ 4000 ≤ β0) (hSH : ∀ h : Nat, β1 = 2000 + 6 * (h : Int) → 0 < S'.1.length → h < H) (hA : TGo ar (TN.length : Int) (S'.2.1.length : Int) (S'.1.length : Int) Ai) (hA0 : A0' = enN ar β0 β1 Ai) (h40 : ¬ K (a + 1) = 40) (hwm : K (a + 2) = 91 ∨ K (a + 2) = 40) (hq : wTk K nI (a + 1)) (h222 : (s.2.1 222 eN).toInt = 4002 * (b : Int) + (a + 1)) (hcT : cTs K L W ar TN β0 β1 S' A0 A1 s (eN : Int) y' a) (hL : 0 ≤ L (a + 1)) (hx0 : (exO K L W ar kd TN Ls S' evT a Ai).1 = 0) (hM : wM G H b n sc S O s Q hi eN A0' A) : A = enN ar β0 β1 (exO K L W ar kd TN Ls S' evT a Ai).2 ∧ ((s.2.1 272 eN).toInt = (Ai.length : Int) ∧ ∀ (i : Nat) (c : Int), (Ai.map (rhE ar β0 β1))[i]? = some c → KI (s.2.1 270) ((s.2.1 271 eN).toInt + (i : Int)) = c) ∧ (∃ g : Nat, g < kHd K L Ls ∧ (s.2.1 217 (s.2.1 222 eN).toInt.toNat).toInt = wHr (b : Int) s g ∧ W (a + 1) = hwd K L W Ls g) ∧ ∃ (hm : Nat), eN < hm ∧ hm ≤ hi ∧ ∃ (m1 : Nat) (fT : Nat → List Nat), wL G s Q (s.2.1 224 eN).toInt hm hi m1 fT := by
  obtain ⟨ha, h24⟩ := PR_ar hPR
  have hbo := hW.2.2.1.1
  have hbo' := hbo
  unfold bOK at hbo'
  have hγ : 0 ≤ β0 ∧ 0 ≤ β1 := by omega
  obtain ⟨-, -, -, ⟨l1, l2, l3⟩, -⟩ := hW.2.1
  obtain ⟨M, x, As, h, cd, Bs, t, q, hm, c1, c2, c3, c4, c5, c6, c7, c8, d1, d2, d3, d4, d5, c9, c10, c11, c12, c13, hL', c14⟩ := hM
  have gg := pgA hC.1
  rw [hC.2.2.2.2.2.2.2.1] at gg
  have gT' := gg.1
  rw [hA0] at c1
  have hMe := mid_en hPR hG hC hTn hFn hW hβ hSH hA c1
  have hO := own_g hW hA
  obtain ⟨Om, hOm⟩ : ∃ Om, Om = ownT S'.2.2.1 Ai := ⟨_, rfl⟩
  rw [← hOm] at hMe hO
  obtain ⟨co, lO, eO⟩ : ∃ co lO, Om = co :: lO := by
    cases Om with
    | nil => exact absurd rfl (isR_ne hO.1)
    | cons co lO => exact ⟨co, lO, rfl⟩
  have clO : ∀ x ∈ co :: lO, 0 ≤ x := fun x hx => by
    rw [← eO] at hx
    exact (hO.2.2 x hx).1
  have hOR : isR ar 1 (co :: lO) := by
    rw [← eO]
    exact hO.1
  rw [hMe, eO] at c2
  obtain ⟨x1, x2⟩ := cut_arG ha hγ hOR clO c2
  obtain ⟨r1, r2, r3⟩ := rhE_nat (γ0 := β0) (γ1 := β1) ha hγ (clO co List.mem_cons_self)
  have hco24 : co < 24 := by
    rcases Int.lt_or_le co 24 with z | z
    · exact z
    · have h36 := (hO.2.2 co (by rw [eO]; exact List.mem_cons_self)).2.1
      have : 1000 ≤ rhC β0 β1 co := by
        unfold rhC
        rw [if_neg (by omega)]
        split
        · omega
        · omega
      have hT24 := hC.2.2.2.2.2.2.2.2.1.1.1
      rw [x1] at c3
      omega
  have erC : rhC β0 β1 co = co := by
    unfold rhC
    rw [if_pos hco24]
  have ex8 : ((x / 8 : Nat) : Int) = co := by rw [x1, r2, erC]
  have hcN : co < (TN.length : Int) := by omega
  -- the HEAD
  have hww : (s.2.1 217 t).toInt = (s.2.1 217 (4002 * (b : Int) + (a + 1)).toNat).toInt := by rw [show t = (4002 * (b : Int) + (a + 1)).toNat by omega]
  obtain ⟨s1, s2, s3, s4, s5⟩ := sd_en hPR hG hC (q0 := a + 1) (c := x / 8) (h1 := by omega) (h2 := by omega) (hw := fun g hg => by rw [hww]; exact hw (a + 1) hq g hg) (hh := c7) (hH := c8)
  rw [ex8] at s1 s4
  obtain ⟨e1, e2, e3, e4, e5, e6⟩ := gh_en hG hC c8 s2
  obtain ⟨⟨hp1, hp2, hp3⟩, hp4, -⟩ := hd_pu (L := L) (W := W) hPR s2
  -- told
  obtain ⟨Ys, hYe⟩ : ∃ Ys, Ys = (exY K L (a + 1)).map (fun y => wdC K L W ar TN S'.1 S'.2.1 y) := ⟨_, rfl⟩
  have hBY : Bs = Ys.map (enN ar β0 β1) := by
    obtain ⟨ys, y1, y2, y3⟩ := id c11
    obtain ⟨zt, k1, k2⟩ := hcT
    rw [Int.toNat_natCast] at k1
    obtain ⟨cy1, cy2⟩ := ch_ww (fun i hi => ⟨by have := (k2 i hi).1; omega, (k2 i hi).2.2⟩) ys 0 _ (Nat.zero_le _) k1 y1
    rw [Nat.zero_add] at cy1
    refine List.ext_getElem? (fun i => ?_)
    rw [List.getElem?_map, hYe, List.getElem?_map]
    unfold exY
    rw [List.getElem?_map]
    by_cases hi : i < exN K L (a + 1)
    · rw [List.getElem?_range hi]
      have hyi : ys[i]? = some ys[i] := List.getElem?_eq_getElem (by omega)
      obtain ⟨-, -, B, b1', b2'⟩ := y3 i _ hyi
      have ez := cy2 i _ hyi
      rw [Nat.zero_add] at ez
      have hc1 := (k2 i hi).2.1.1
      rw [← ez] at hc1
      rw [b1', wT_en b2' hc1, show a + 3 = a + 1 + 2 by omega]
      rfl
    · rw [List.getElem?_eq_none (by omega), List.getElem?_eq_none (by rw [List.length_range]; omega)]
      rfl
  have lY : Ys.length = exN K L (a + 1) := by
    rw [hYe, List.length_map]
    unfold exY
    rw [List.length_map, List.length_range]
  -- what typing says
  have eXO : exO K L W ar kd TN Ls S' evT a Ai = exM K L W ar kd TN Ls S' evT a Ai := by
    unfold exO
    rw [if_neg h40, if_pos hwm]
  have eXM : exM K L W ar kd TN Ls S' evT a Ai = exC K L W ar kd TN Ls S' evT (a + 1) Om (hdd K L W ar TN Ls h) := by
    unfold exM
    rw [← hOm, show Om.headD 0 = co by rw [eO]; rfl, s1, if_neg (by omega), Int.toNat_natCast]
  rw [eXO, eXM] at hx0 ⊢
  obtain ⟨xh, hxh⟩ : ∃ xh, xh = hdd K L W ar TN Ls h := ⟨_, rfl⟩
  rw [← hxh] at hx0 hp1 hp2 hp3 hp4 e1 e2 e3 e4 e5 ⊢
  obtain ⟨η, hη⟩ : ∃ η, η = exE K L W ar TN S' Om (a + 1) := ⟨_, rfl⟩
  have eC2 : exN K L (a + 1) = xh.1 ∧ (exC K L W ar kd TN Ls S' evT (a + 1) Om xh).2 = sbs η (xh.2.2.getD (xh.1 + xh.2.1) []) := by
    unfold exC at hx0 ⊢
    rw [← hη] at hx0 ⊢
    by_cases k1 : exN K L (a + 1) = xh.1 ∧ NM K L (a + 1) = xh.2.1
    · rw [if_pos k1] at hx0 ⊢
      refine ⟨k1.1, ?_⟩
      by_cases k2 : ffs (exB K L W ar kd TN Ls S' η xh.2.2 (exY K L (a + 1))) = 0
      · rw [if_pos k2] at hx0 ⊢
        by_cases k3 : exP K L W ar kd TN Ls S' evT η ((exU K L (mO K L (a + 1)).2 (NM K L (a + 1))).zip (xh.2.2.drop xh.1)) = 0
        · rw [if_pos k3] at hx0 ⊢
          by_cases k4 : 60 < (sbs η (xh.2.2.getD (xh.1 + xh.2.1) [])).length
          · rw [if_pos k4] at hx0
            have hx0 : 9 + 16 * L (a + 1) = 0 := hx0
            omega
          · rw [if_neg k4]
        · rw [if_neg k3] at hx0
          exact absurd hx0 k3
      · rw [if_neg k2] at hx0
        exact absurd hx0 k2
    · rw [if_neg k1] at hx0
      have hx0 : 4 + 16 * L (a + 1) = 0 := hx0
      omega
  obtain ⟨eN1, eN2⟩ := eC2
  have eηη : η = eta (argT ar Om) Ys := by rw [hη, hYe]; rfl
  have hZm : xh.2.2.getD (xh.1 + xh.2.1) [] ∈ xh.2.2 := by
    rw [List.getD_eq_getElem?_getD, List.getElem?_eq_getElem (show xh.1 + xh.2.1 < xh.2.2.length by omega)]
    exact List.getElem_mem _
  have lAr := (argT_g ha hO).1
  rw [eO] at lAr
  have lAr : ((argT ar (co :: lO)).length : Int) = ar co := lAr
  have har := ha co
  have hbh := (hG.2.2.2.2.1 h s2).2.1
  have hs := subs_enG (γ0 := β0) (γ1 := β1) (b0 := cd) (b1 := 2000 + 6 * h) (X := argT ar Om) (Y := Ys) ha (by rw [s3, show ((2000 + 6 * h : Nat) : Int) = 2000 + 6 * (h : Int) by omega]; exact hbh) (by rw [eO]; have h6 := (gt_en hG hC (c := x / 8) (by omega) (by omega)).2.2.1; have := (hG.2.1 co (clO co List.mem_cons_self) hcN).2.1.2; omega) (xh.2.2.getD (xh.1 + xh.2.1) []) (by
    have := (hp4 _ hZm).1
    rw [s4] at this
    rw [eO, lAr, lY, eN1]
    exact this)
  rw [s3, show ((2000 + 6 * h : Nat) : Int) = 2000 + 6 * (h : Int) by omega] at hs
  refine ⟨?_, ⟨by rw [d2, hA0, enN_len], fun i c hc => ?_⟩, ⟨h, s2, ?_, ?_⟩, hm, c9, c10, _, _, hL'⟩
  · rw [c14, e1, x2, hBY, eN2, eηη, ← eO]
    exact hs
  · have hi' := (List.getElem?_eq_some_iff.mp hc).1
    rw [List.length_map] at hi'
    rw [List.getElem?_map, List.getElem?_eq_getElem hi'] at hc
    have hc : rhE ar β0 β1 Ai[i] = c := Option.some.inj hc
    obtain ⟨w1, w2, w3, w4⟩ := hA.2.2 Ai[i] (List.getElem_mem _)
    obtain ⟨v1, v2, v3⟩ := rhE_nat (γ0 := β0) (γ1 := β1) ha hγ w1
    have hup : rhC β0 β1 Ai[i] ≤ 5000 := by
      unfold rhC
      split
      · omega
      · split
        · omega
        · omega
    have hac := ha Ai[i]
    have hl : A0'.length = Ai.length := by rw [hA0, enN_len]
    have g0 : (sg s q A0'.length)[i]? = A0'[i]? := by rw [d5]
    unfold sg at g0
    rw [List.getElem?_map, List.getElem?_range (by omega), hA0] at g0
    have g1 : (enN ar β0 β1 Ai)[i]? = some (rhE ar β0 β1 Ai[i]).toNat := by
      unfold enN nE
      rw [List.getElem?_map, List.getElem?_map, List.getElem?_eq_getElem hi']
      rfl
    rw [g1] at g0
    have g0 : (if (s.2.1 270 (q + i)).toInt < 0 then 100000 else (s.2.1 270 (q + i)).toInt.toNat) = (rhE ar β0 β1 Ai[i]).toNat := Option.some.inj g0
    have e0 : rhE ar β0 β1 Ai[i] = 8 * rhC β0 β1 Ai[i] + ar Ai[i] := rfl
    rw [d1, show (q : Int) + (i : Int) = ((q + i : Nat) : Int) by omega, KI_n, ← hc]
    by_cases hneg : (s.2.1 270 (q + i)).toInt < 0
    · rw [if_pos hneg] at g0
      omega
    · rw [if_neg hneg] at g0
      omega
  · rw [h222]
    rw [s5, hww]
  · exact ((hw (a + 1) hq h s2).mp (by rw [s5, hww])).symm
end ZVYA
