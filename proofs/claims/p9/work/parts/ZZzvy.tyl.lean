/-! ===== the reference: the TYPES of E, as its tables tell them and as the tokens do ===== -/
section ZVY
variable {ar : Int → Int} {γ0 γ1 β0 β1 : Int} {b0 b1 : Nat} {X Y : List (List Int)} {A B : List Int} {v : Nat} {Vs : List (List Nat)} {s : yS} {Z : Int} {D : List Int}
theorem enG_app : enN ar γ0 γ1 (A ++ B) = enN ar γ0 γ1 A ++ enN ar γ0 γ1 B := by
  unfold enN nE
  rw [List.map_append, List.map_append]
theorem enG_fl : ∀ Z : List (List Int), (Z.map (enN ar γ0 γ1)).flatten = enN ar γ0 γ1 Z.flatten
  | [] => rfl
  | A :: Z => by
    rw [List.map_cons, List.flatten_cons, List.flatten_cons, enG_app, enG_fl Z]
theorem rhC_nn (hγ : 0 ≤ γ0 ∧ 0 ≤ γ1) {c : Int} (h : 0 ≤ c) : 0 ≤ rhC γ0 γ1 c := by
  unfold rhC
  split
  · omega
  · split
    · omega
    · split <;> omega
/-- an element, as a number -/
theorem rhE_nat (ha : ∀ c, 0 ≤ ar c ∧ ar c ≤ 7) (hγ : 0 ≤ γ0 ∧ 0 ≤ γ1) {c : Int} (h : 0 ≤ c) : ((rhE ar γ0 γ1 c).toNat : Int) = 8 * rhC γ0 γ1 c + ar c ∧ (((rhE ar γ0 γ1 c).toNat / 8 : Nat) : Int) = rhC γ0 γ1 c ∧ (((rhE ar γ0 γ1 c).toNat % 8 : Nat) : Int) = ar c := by
  have h1 := rhC_nn hγ h
  have h2 := ha c
  have e : rhE ar γ0 γ1 c = 8 * rhC γ0 γ1 c + ar c := rfl
  omega
theorem isF_enG (ha : ∀ c, 0 ≤ ar c ∧ ar c ≤ 7) (hγ : 0 ≤ γ0 ∧ 0 ≤ γ1) : ∀ (B : List Int) (k : Nat), isR ar (k : Int) B → (∀ c ∈ B, 0 ≤ c) → isF k (enN ar γ0 γ1 B)
  | [], k, h, _ => by
    have h : (k : Int) = 0 := h
    show k = 0
    omega
  | c :: B, k, h, hc => by
    obtain ⟨h1, h2, h3⟩ := h
    have c0 := hc c List.mem_cons_self
    have hac := ha c
    have e : enN ar γ0 γ1 (c :: B) = (rhE ar γ0 γ1 c).toNat :: enN ar γ0 γ1 B := rfl
    rw [e]
    refine ⟨by omega, ?_⟩
    have ex : k - 1 + (rhE ar γ0 γ1 c).toNat % 8 = k - 1 + (ar c).toNat := by
      have := (rhE_nat ha hγ c0).2.2
      omega
    rw [ex]
    refine isF_enG ha hγ B _ ?_ (fun c hc' => hc c (List.mem_cons_of_mem _ hc'))
    rw [show ((k - 1 + (ar c).toNat : Nat) : Int) = (k : Int) + ar c - 1 by omega]
    exact h3
/-- the TYPES within a TYPE -/
theorem cut_arG (ha : ∀ c, 0 ≤ ar c ∧ ar c ≤ 7) (hγ : 0 ≤ γ0 ∧ 0 ≤ γ1) {c : Int} {l : List Int} (hA : isR ar 1 (c :: l)) (cl : ∀ x ∈ c :: l, 0 ≤ x) (h : cutT (enN ar γ0 γ1 (c :: l)) v Vs) : v = (rhE ar γ0 γ1 c).toNat ∧ Vs = (argT ar (c :: l)).map (enN ar γ0 γ1) := by
  obtain ⟨f1, f2, f3⟩ := argT_ok ha hA
  have c0 := cl c List.mem_cons_self
  have hac := ha c
  have g : cutT (enN ar γ0 γ1 (c :: l)) (rhE ar γ0 γ1 c).toNat ((argT ar (c :: l)).map (enN ar γ0 γ1)) := by
    refine ⟨?_, fun B hB => ?_, ?_⟩
    · rw [enG_fl, f1]
      rfl
    · obtain ⟨x, hx, rfl⟩ := List.mem_map.mp hB
      refine isF_enG ha hγ x 1 (f2 x hx) (fun y hy => cl y (List.mem_cons_of_mem _ ?_))
      rw [← f1]
      exact List.mem_flatten.mpr ⟨x, hx, hy⟩
    · rw [List.length_map]
      have := (rhE_nat ha hγ c0).2.2
      omega
  exact cutT_inj h g
/-- PARAMS are put, others stay -/
theorem subs_enG (ha : ∀ c, 0 ≤ ar c ∧ ar c ≤ 7) (hb : bOK (b0 : Int) (b1 : Int)) (hX : X.length ≤ 6) : ∀ A : List Int, cdW (X.length : Int) (Y.length : Int) A → subs (envS b0 (X.map (enN ar γ0 γ1)) b1 (Y.map (enN ar γ0 γ1))) (enN ar (b0 : Int) (b1 : Int) A) = enN ar γ0 γ1 (sbs (eta X Y) A)
  | [], _ => rfl
  | c :: A, h => by
    have ih := subs_enG ha hb hX A (fun c hc => h c (List.mem_cons_of_mem _ hc))
    obtain ⟨h1, h2, h3, h4⟩ := h c List.mem_cons_self
    have hac := ha c
    have e1 : enN ar (b0 : Int) (b1 : Int) (c :: A) = (rhE ar (b0 : Int) (b1 : Int) c).toNat :: enN ar (b0 : Int) (b1 : Int) A := rfl
    have e2 : ∀ D : List Int, enN ar γ0 γ1 (D ++ sbs (eta X Y) A) = enN ar γ0 γ1 D ++ enN ar γ0 γ1 (sbs (eta X Y) A) := fun D => enG_app
    have e3 : sbs (eta X Y) (c :: A) = (if c < 24 then [c] else eta X Y (c - 24).toNat) ++ sbs (eta X Y) A := rfl
    rw [e1, subs_cons, ih, e3, e2]
    congr 1
    unfold bOK at hb
    by_cases q : c < 24
    · rw [if_pos q, rhE_0 q]
      rw [sub_none (envS_lt (by omega))]
      show [(8 * c + ar c).toNat] = enN ar γ0 γ1 [c]
      show _ = [(rhE ar γ0 γ1 c).toNat]
      rw [rhE_0 q]
    · rw [if_neg q]
      by_cases q2 : c < 30
      · have hk := h3 (by omega) q2
        have er : rhE ar (b0 : Int) (b1 : Int) c = 8 * ((b0 : Int) + (c - 24)) + ar c := by
          unfold rhE rhC
          rw [if_neg q, if_pos q2]
        have ed : (rhE ar (b0 : Int) (b1 : Int) c).toNat / 8 = b0 + (c - 24).toNat := by rw [er]; omega
        have hkl : (c - 24).toNat < X.length := by omega
        have hg : envS b0 (X.map (enN ar γ0 γ1)) b1 (Y.map (enN ar γ0 γ1)) ((rhE ar (b0 : Int) (b1 : Int) c).toNat / 8) = some (enN ar γ0 γ1 X[(c - 24).toNat]) := by
          rw [ed]
          refine envS_1 (by omega) ?_
          unfold grp
          rw [if_pos (by omega), show b0 + (c - 24).toNat - b0 = (c - 24).toNat by omega, List.getElem?_map, List.getElem?_eq_getElem hkl]
          rfl
        rw [sub_some hg]
        have ee : eta X Y (c - 24).toNat = X[(c - 24).toNat] := by
          unfold eta
          rw [if_pos (by omega), if_pos hkl, List.getD_eq_getElem?_getD, List.getElem?_eq_getElem hkl]
          rfl
        rw [ee]
      · have hk := h4 (by omega)
        have er : rhE ar (b0 : Int) (b1 : Int) c = 8 * ((b1 : Int) + (c - 30)) + ar c := by
          unfold rhE rhC
          rw [if_neg q, if_neg q2, if_pos h2]
        have ed : (rhE ar (b0 : Int) (b1 : Int) c).toNat / 8 = b1 + (c - 30).toNat := by rw [er]; omega
        have hkl : (c - 30).toNat < Y.length := by omega
        have hn : grp b0 (X.map (enN ar γ0 γ1)) (b1 + (c - 30).toNat) = none := by
          refine grp_none ?_
          rw [List.length_map]
          omega
        have hg : envS b0 (X.map (enN ar γ0 γ1)) b1 (Y.map (enN ar γ0 γ1)) ((rhE ar (b0 : Int) (b1 : Int) c).toNat / 8) = some (enN ar γ0 γ1 Y[(c - 30).toNat]) := by
          rw [ed, envS_2 (by omega) hn]
          unfold grp
          rw [if_pos (by omega), show b1 + (c - 30).toNat - b1 = (c - 30).toNat by omega, List.getElem?_map, List.getElem?_eq_getElem hkl]
          rfl
        rw [sub_some hg]
        have ee : eta X Y (c - 24).toNat = Y[(c - 30).toNat] := by
          unfold eta
          rw [if_neg (by omega), if_pos (by omega), List.getD_eq_getElem?_getD, show (c - 24).toNat - 6 = (c - 30).toNat by omega, List.getElem?_eq_getElem hkl]
          rfl
        rw [ee]
/-- what a slot was resolved to -/
theorem tyS_en {q i : Nat} (h : RSe s Z (s.2.1 q i).toInt (D.map (rhE ar β0 β1))) : tyS s q i = enN ar β0 β1 D := by
  obtain ⟨h0, ⟨h1, -⟩, h3, h4⟩ := h
  unfold tyS
  have e : (s.2.1 232 (s.2.1 q i).toInt.toNat).toInt.toNat = (D.map (rhE ar β0 β1)).length := by omega
  rw [e]
  have h4' : RWel s (((s.2.1 231 (s.2.1 q i).toInt.toNat).toInt.toNat : Nat) : Int) (D.map (rhE ar β0 β1)) := by
    rw [Int.toNat_of_nonneg h1]
    exact h4
  exact seg_of h4'
theorem RSe_le {Z' y : Int} {E : List Int} (h : RSe s Z y E) (hZ : Z ≤ Z') : RSe s Z' y E := ⟨h.1, ⟨h.2.1.1, by have := h.2.1.2; omega⟩, h.2.2⟩
/-- PARAMS for themselves -/
theorem sbs_idp {η : Nat → List Int} (hη : ∀ p : Nat, η p = [24 + (p : Int)]) : ∀ A : List Int, sbs η A = A
  | [] => rfl
  | c :: A => by
    have ih := sbs_idp hη A
    have e3 : sbs η (c :: A) = (if c < 24 then [c] else η (c - 24).toNat) ++ sbs η A := rfl
    rw [e3, ih]
    by_cases q : c < 24
    · rw [if_pos q]
      rfl
    · rw [if_neg q, hη]
      show (24 + ((c - 24).toNat : Int)) :: A = c :: A
      rw [show (24 + ((c - 24).toNat : Int)) = c by omega]
end ZVY
section ZVYT
variable {K L W ar kd : Int → Int} {TN Ls : List Int} {nI lo hi : Int} {own : Nat → Nat × Nat} {b n N T F H S0 : Nat} {G : PG} {s : yS} {Ag tN : Int} {cf hb ow hw : Nat → Int} {fs : Nat → Nat} {Fk Hk : Nat} {tm tn : Int → Nat} {hd : Nat → Nat × Nat × List (List Int)} {Bf : Int → List (List Int)}
/-- a HEAD, in both -/
theorem gh_en (hG : PGr ar kd cf fs Fk Hk tN tm tn hd hb ow hw Bf (b : Int) Ag s) (hC : CK own b n N T F H S0 G s) {h : Nat} (h1 : h < H) (h2 : h < Hk) : ght G h = enN ar (hb h) (2000 + 6 * (h : Int)) ((hd h).2.2.getD ((hd h).1 + (hd h).2.1) []) ∧ ghn G h = (hd h).1 ∧ gvn G h = (hd h).2.1 ∧ (∀ k, k < (hd h).1 → ghb G h k = enN ar (hb h) (2000 + 6 * (h : Int)) ((hd h).2.2.getD k [])) ∧ (∀ k, k < (hd h).2.1 → gvt G h k = enN ar (hb h) (2000 + 6 * (h : Int)) ((hd h).2.2.getD ((hd h).1 + k) [])) ∧ gwd G h = wHr (b : Int) s h := by
  obtain ⟨-, -, -, -, g5, -⟩ := hG
  obtain ⟨⟨⟨m1, m1'⟩, m2, m3, m4, m5, m6⟩, -⟩ := g5 h h2
  have gg := pgA hC.1
  rw [hC.2.2.2.2.2.2.2.1] at gg
  obtain ⟨-, -, -, gg4, gg5, -, -⟩ := gg
  have e : (204 * (b : Int) + (h : Int)).toNat = 204 * b + h := by omega
  rw [e] at m1 m1' m6
  obtain ⟨p1, p2, p3, p4⟩ := gg4 h h1
  have n1 : nT s 245 (204 * b + h) = (hd h).1 := by
    unfold nT
    omega
  have n2 : nT s 248 (204 * b + h) = (hd h).2.1 := by
    unfold nT
    omega
  refine ⟨by rw [p3]; exact tyS_en m6, by omega, by omega, fun k hk => ?_, fun k hk => ?_, ?_⟩
  · rw [(gg5 h k h1).1 (by omega)]
    have := m4 k hk
    rw [show (6 * (204 * (b : Int) + (h : Int)) + (k : Int)).toNat = 6 * (204 * b + h) + k by omega] at this
    exact tyS_en this
  · rw [(gg5 h k h1).2 (by omega)]
    have := m5 k hk
    rw [show (6 * (204 * (b : Int) + (h : Int)) + (k : Int)).toNat = 6 * (204 * b + h) + k by omega] at this
    exact tyS_en this
  · rw [p4]
    unfold wHr nT
    rw [e]
/-- a type, in both -/
theorem gt_en (hG : PGr ar kd cf fs Fk Hk tN tm tn hd hb ow hw Bf (b : Int) Ag s) (hC : CK own b n N T F H S0 G s) {c : Nat} (h1 : c < T) (h2 : (c : Int) < tN) : (kd (c : Int) = 1 ∨ kd (c : Int) = 2) ∧ (gst G c = 0 ↔ kd (c : Int) = 2) ∧ (gfm G c : Int) = ar (c : Int) ∧ (∀ k : Nat, (k : Int) < ar (c : Int) → gfb G c k = enN ar (1000 + 6 * (c : Int)) 2000 ((Bf (c : Int)).getD k [])) ∧ (kd (c : Int) = 2 → ghf G c = tm (c : Int) ∧ ghm G c = tn (c : Int)) := by
  obtain ⟨-, g2, -, g4, -, -⟩ := hG
  obtain ⟨k1, ⟨k2, k2'⟩, k3, k4, k5⟩ := g2 (c : Int) (by omega) h2
  have gg := pgA hC.1
  rw [hC.2.2.2.2.2.2.2.1] at gg
  obtain ⟨-, -, gg3, -, -, gg6, -⟩ := gg
  have e : (24 * (b : Int) + (c : Int)).toNat = 24 * b + c := by omega
  rw [e] at k1 k2
  obtain ⟨p1, p2, p3, p4, p5⟩ := gg3 c h1
  have n0 : nT s 235 (24 * b + c) = (s.2.1 235 (24 * b + c)).toInt.toNat := rfl
  have n1 : nT s 236 (24 * b + c) = (s.2.1 236 (24 * b + c)).toInt.toNat := rfl
  refine ⟨by rcases k1 with q | q; exact Or.inl q.1; exact Or.inr q.1, ?_, by omega, fun k hk => ?_, fun hk => ?_⟩
  · constructor
    · intro q
      rcases k1 with w | w
      · omega
      · exact w.1
    · intro q
      rcases k1 with w | w
      · omega
      · omega
  · rw [(gg6 c k h1).1 (by omega)]
    have := k5 k hk
    rw [show (6 * (24 * (b : Int) + (c : Int)) + (k : Int)).toNat = 6 * (24 * b + c) + k by omega] at this
    exact tyS_en this
  · obtain ⟨-, q2, q3, -⟩ := g4 (c : Int) hk
    rw [e] at q2 q3
    have n2 : nT s 242 (24 * b + c) = (s.2.1 242 (24 * b + c)).toInt.toNat := rfl
    have n3 : nT s 243 (24 * b + c) = (s.2.1 243 (24 * b + c)).toInt.toNat := rfl
    omega
/-- a FIELD's TYPE, in both -/
theorem gf_en (hC : CK own b n N T F H S0 G s) (hF : FDr K L W ar kd TN Ls (b : Int) Ag s) {c k : Nat} {Z : List Int} (h1 : c < T) (hk : kd (c : Int) = 1) (hZ : (fTy K L W ar TN Ls (c : Int))[k]? = some Z) (hl : k < gfd G c) : gft G c k = enN ar (1000 + 6 * (c : Int)) 2000 Z := by
  have gg := pgA hC.1
  rw [hC.2.2.2.2.2.2.2.1] at gg
  obtain ⟨-, -, gg3, -, -, gg6, -⟩ := gg
  obtain ⟨p1, p2, p3, p4, p5⟩ := gg3 c h1
  rw [(gg6 c k h1).2 (by omega)]
  have := (hF (c : Int) k Z hk hZ).1
  rw [show (6 * (24 * (b : Int) + (c : Int)) + (k : Int)).toNat = 6 * (24 * b + c) + k by omega] at this
  exact tyS_en this
/-- a func, in both -/
theorem gu_en (hG : PGr ar kd cf fs Fk Hk tN tm tn hd hb ow hw Bf (b : Int) Ag s) (hC : CK own b n N T F H S0 G s) {f : Nat} (h1 : f < F) : f < Fk ∧ F = Fk ∧ gfh G f = fs f ∧ (gso G f : Int) = cf f ∧ fs f < H ∧ fs f < Hk ∧ hb (fs f) = 4000 + 6 * (f : Int) ∧ ow (fs f) = cf f ∧ gso G f < T ∧ kd (cf f) = 1 := by
  obtain ⟨-, -, ⟨p31, p32⟩, -, -, -⟩ := hG
  have gg := pgA hC.1
  rw [hC.2.2.2.2.2.2.2.1] at gg
  obtain ⟨gT', gF', -, -, -, -, gg7⟩ := gg
  obtain ⟨-, -, -, -, -, -, r52, -⟩ := hC.1
  rw [Int.toNat_natCast] at p31
  have eF : F = Fk := by omega
  obtain ⟨w1, w2, w3, w4, w5, w6, w7, w8⟩ := p32 f (by omega)
  obtain ⟨k1, k2, k3⟩ := gg7 f h1
  rw [show (60 * (b : Int) + (f : Int)).toNat = 60 * b + f by omega] at w1 w2
  have n1 : nT s 261 (60 * b + f) = (s.2.1 261 (60 * b + f)).toInt.toNat := rfl
  have n2 : nT s 257 (60 * b + f) = (s.2.1 257 (60 * b + f)).toInt.toNat := rfl
  have hW := hC.2.2.2.2.2.2.2.2.1.2.2.2.2.2.2.1 f (by omega)
  have e1 : gfh G f = fs f := by omega
  have hW1 := hW.1
  have hW2 := hW.2.1
  exact ⟨by omega, eF, e1, by omega, by omega, w3, w4, w5, by omega, w8⟩
/-- which HEAD, in both -/
theorem sd_en (hPR : PRm K L W ar kd nI lo hi TN Ls) (hG : PGr ar kd (cfO K L W TN Ls) (fsd K L Ls) (kFn K Ls) (kHd K L Ls) (TN.length : Int) (tmd K L Ls) (tnd K L Ls) (hdd K L W ar TN Ls) (hbd K L Ls) (owd K L W TN Ls) (hwd K L W Ls) (Bfd K L W ar TN Ls) (b : Int) Ag s) (hC : CK own b n N T F H S0 G s) {c h cd : Nat} {q0 w : Int} (h1 : c < T) (h2 : (c : Int) < (TN.length : Int)) (hw : ∀ g : Nat, g < kHd K L Ls → (wHr (b : Int) s g = w ↔ hwd K L W Ls g = W q0)) (hh : isHd G c w h cd) (hH : h < H) : soD K L W kd TN Ls (c : Int) (W q0) = (h : Int) ∧ h < kHd K L Ls ∧ (cd : Int) = hbd K L Ls h ∧ owd K L W TN Ls h = (c : Int) ∧ wHr (b : Int) s h = w := by
  obtain ⟨t1, t2, t3, t4, t5⟩ := gt_en hG hC h1 h2
  have gg := pgA hC.1
  rw [hC.2.2.2.2.2.2.2.1] at gg
  have gF' := gg.2.1
  rcases hh with ⟨a0, k, a1, a2, a3, a4, a5, a6⟩ | ⟨a0, j, a1, a2, a3, a4, a5⟩
  · have hk1 : kd (c : Int) = 1 := by
      rcases t1 with q | q
      · exact q
      · exact absurd (t2.mpr q) a0
    obtain ⟨u1, u2, u3, u4, u5, u6, u7, u8, u9, u10⟩ := gu_en hG hC (f := k) (by omega)
    have hh : h < kHd K L Ls := by omega
    have eg := (gh_en hG hC hH hh).2.2.2.2.2
    have hwh : wHr (b : Int) s h = w := by
      rw [← eg, a4]
      exact a3
    have fx : lFw (cfO K L W TN Ls) (fun f => hwd K L W Ls (fsd K L Ls f)) (c : Int) (W q0) (kFn K Ls) = (k : Int) := by
      refine lFw_is (by omega) ?_ _ (by omega) (fun k' b1 b2 => ?_)
      · show hwd K L W Ls (fsd K L Ls k) = W q0
        rw [← u3, ← a4]
        exact (hw h hh).mp hwh
      · rintro ⟨c1, c2⟩
        obtain ⟨m1, m2, m3, m4, m5, m6, -⟩ := gu_en hG hC (f := k') (by omega)
        refine a6 k' (by omega) b1 ⟨by omega, ?_⟩
        rw [(gh_en hG hC (h := gfh G k') (by omega) (by omega)).2.2.2.2.2]
        refine (hw _ (by omega)).mpr ?_
        rw [m3]
        exact c2
    refine ⟨?_, hh, ?_, ?_, hwh⟩
    · unfold soD rso
      rw [if_pos hk1, fx, if_pos (by omega), Int.toNat_natCast, ← u3, ← a4]
    · rw [a4, u3, u7]
      omega
    · rw [a4, u3, u8]
      omega
  · have hk2 : kd (c : Int) = 2 := t2.mp a0
    obtain ⟨w1, w2⟩ := t5 hk2
    obtain ⟨-, v2, v3, v4, v5⟩ := hG.2.2.2.1 (c : Int) hk2
    have hh : h < kHd K L Ls := by omega
    have eg := (gh_en hG hC hH hh).2.2.2.2.2
    have hwh : wHr (b : Int) s h = w := by rw [← eg]; exact a3
    have hx := (hw h hh).mp hwh
    obtain ⟨z1, z2, z3⟩ := v5 h (by omega) (by omega)
    refine ⟨?_, hh, by omega, z2, hwh⟩
    unfold soD rso
    rw [if_neg (by omega), if_pos hk2]
    rcases fsM_b (wf := hwd K L W Ls) (x := W q0) (tnd K L Ls (c : Int)) (tmd K L Ls (c : Int)) with q | ⟨g, q1, q2, q3, q4⟩
    · exact absurd hx (fsM_no (wf := hwd K L W Ls) (x := W q0) _ _ q h (by omega) (by omega))
    · rw [q3]
      have := z3 g q1 q2 (by rw [hx, q4])
      omega
end ZVYT
