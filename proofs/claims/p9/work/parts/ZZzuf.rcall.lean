/-! ===== the reference's run beside the pure machine: a call ===== -/
/-- every func's E was passed and typed -/
def FOk (K L W ar kd : Int → Int) (TN Ls : List Int) (nI : Int) : Prop := ∀ (i : Nat) (t : Int), Ls[i]? = some t → K t = 6 → (p_e K L 10 false (0, (f_7 K L false (0, t)).2)).1 = 0 ∧ (exE6 K L W ar kd TN Ls (fnS K L W ar TN Ls i t) 10 (f_7 K L false (0, t)).2).1 = 0 ∧ 0 ≤ (f_7 K L false (0, t)).2 ∧ nxE K L (f_7 K L false (0, t)).2 ≤ nI
section ZUI
variable {ar : Int → Int} {nT : Int} {E : Env}
theorem enN_app {A B : List Int} : enN ar 0 0 (A ++ B) = enN ar 0 0 A ++ enN ar 0 0 B := by
  unfold enN nE
  rw [List.map_append, List.map_append]
theorem enN_fl : ∀ Z : List (List Int), (Z.map (enN ar 0 0)).flatten = enN ar 0 0 Z.flatten
  | [] => rfl
  | A :: Z => by
    rw [List.map_cons, List.flatten_cons, List.flatten_cons, enN_app, enN_fl Z]
theorem isF_enN (ha : ∀ c, 0 ≤ ar c ∧ ar c ≤ 7) : ∀ (B : List Int) (k : Nat), isR ar (k : Int) B → (∀ c ∈ B, 0 ≤ c ∧ c < 24) → isF k (enN ar 0 0 B)
  | [], k, h, _ => by
    have h : (k : Int) = 0 := h
    show k = 0
    omega
  | c :: B, k, h, hc => by
    obtain ⟨h1, h2, h3⟩ := h
    have c0 := hc c List.mem_cons_self
    have hac := ha c
    have e : enN ar 0 0 (c :: B) = (rhE ar 0 0 c).toNat :: enN ar 0 0 B := rfl
    rw [e]
    refine ⟨by omega, ?_⟩
    have ex : k - 1 + (rhE ar 0 0 c).toNat % 8 = k - 1 + (ar c).toNat := by
      rw [rhE_0 c0.2]
      omega
    rw [ex]
    refine isF_enN ha B _ ?_ (fun c hc' => hc c (List.mem_cons_of_mem _ hc'))
    rw [show ((k - 1 + (ar c).toNat : Nat) : Int) = (k : Int) + ar c - 1 by omega]
    exact h3
/-- the TYPES within a TYPE -/
theorem cut_arg {A : List Int} {v : Nat} {Vs : List (List Nat)} (ha : ∀ c, 0 ≤ ar c ∧ ar c ≤ 7) (hA : TGo ar nT 0 0 A) (h : cutT (enN ar 0 0 A) v Vs) : Vs = (argT ar A).map (enN ar 0 0) := by
  cases A with
  | nil => exact absurd rfl (isR_ne hA.1)
  | cons c l =>
    obtain ⟨f1, f2, f3⟩ := argT_ok ha hA.1
    have cl := cd_cl hA.2.2
    have c0 := cl c List.mem_cons_self
    have hac := ha c
    have g : cutT (enN ar 0 0 (c :: l)) (rhE ar 0 0 c).toNat ((argT ar (c :: l)).map (enN ar 0 0)) := by
      refine ⟨?_, fun B hB => ?_, ?_⟩
      · rw [enN_fl, f1]
        rfl
      · obtain ⟨x, hx, rfl⟩ := List.mem_map.mp hB
        refine isF_enN ha x 1 (f2 x hx) (fun y hy => cl y (List.mem_cons_of_mem _ ?_))
        rw [← f1]
        exact List.mem_flatten.mpr ⟨x, hx, hy⟩
      · rw [List.length_map, rhE_0 c0.2]
        omega
    exact (cutT_inj h g).2
theorem ptL_app : ∀ (X Y : List (List Int)) (l : Int), ptL E (X ++ Y) l = if (ptL E X l).1 = 5 then ((ptL E Y (ptL E X l).2.2).1, (ptL E X l).2.1 ++ (ptL E Y (ptL E X l).2.2).2.1, (ptL E Y (ptL E X l).2.2).2.2) else ptL E X l
  | [], Y, l => by
    show ptL E Y l = if (5 : Int) = 5 then (_, _, _) else _
    rw [if_pos rfl]
    rfl
  | A :: X, Y, l => by
    have ih := ptL_app X Y (ptT E A l).2.2
    have e : ∀ Z, ptL E (A :: Z) l = if (ptT E A l).1 = 5 then ((ptL E Z (ptT E A l).2.2).1, (ptT E A l).2.1 :: (ptL E Z (ptT E A l).2.2).2.1, (ptL E Z (ptT E A l).2.2).2.2) else ((ptT E A l).1, [], (ptT E A l).2.2) := fun _ => rfl
    rw [List.cons_append]
    by_cases q : (ptT E A l).1 = 5
    · have e1 : ∀ Z, ptL E (A :: Z) l = ((ptL E Z (ptT E A l).2.2).1, (ptT E A l).2.1 :: (ptL E Z (ptT E A l).2.2).2.1, (ptL E Z (ptT E A l).2.2).2.2) := fun Z => by rw [e, if_pos q]
      rw [e1, e1, ih]
      by_cases q2 : (ptL E X (ptT E A l).2.2).1 = 5
      · rw [if_pos q2]
        exact (if_pos q2).symm
      · rw [if_neg q2]
        exact (if_neg q2).symm
    · have e1 : ∀ Z, ptL E (A :: Z) l = ((ptT E A l).1, [], (ptT E A l).2.2) := fun Z => by rw [e, if_neg q]
      rw [e1, e1]
      exact (if_neg q).symm
/-- one TYPE more -/
theorem ptL_st {X Bs : List (List Int)} {A : List Int} {l l1 : Int} (h : ptL E X l = (5, Bs, l1)) : ((ptT E A l1).1 = 5 → ptL E (X ++ [A]) l = (5, Bs ++ [(ptT E A l1).2.1], (ptT E A l1).2.2)) ∧ (¬ (ptT E A l1).1 = 5 → (ptL E (X ++ [A]) l).1 = (ptT E A l1).1 ∧ (ptL E (X ++ [A]) l).2.2 = (ptT E A l1).2.2) := by
  have e : ptL E (X ++ [A]) l = ((ptL E [A] l1).1, Bs ++ (ptL E [A] l1).2.1, (ptL E [A] l1).2.2) := by
    rw [ptL_app, h]
    exact if_pos rfl
  have e1 : ptL E [A] l1 = if (ptT E A l1).1 = 5 then (5, [(ptT E A l1).2.1], (ptT E A l1).2.2) else ((ptT E A l1).1, [], (ptT E A l1).2.2) := rfl
  refine ⟨fun q => ?_, fun q => ?_⟩
  · rw [e, e1, if_pos q]
  · rw [e, e1, if_neg q]
    exact ⟨rfl, rfl⟩
/-- what comes behind an end -/
theorem ptL_no {X Y : List (List Int)} {l : Int} (h : ¬ (ptL E X l).1 = 5) : ptL E (X ++ Y) l = ptL E X l := by
  rw [ptL_app, if_neg h]
theorem lFw_is {cf wf : Nat → Int} {c x : Int} {k : Nat} (h1 : cf k = c) (h2 : wf k = x) : ∀ F : Nat, k < F → (∀ k', k < k' → k' < F → ¬ (cf k' = c ∧ wf k' = x)) → lFw cf wf c x F = (k : Int)
  | 0, h, _ => by omega
  | F + 1, h, hn => by
    show (if cf F = c ∧ wf F = x then (F : Int) else lFw cf wf c x F) = _
    by_cases e : F = k
    · rw [e, if_pos ⟨h1, h2⟩]
    · rw [if_neg (hn F (by omega) (by omega))]
      exact lFw_is h1 h2 F (by omega) (fun k' a b => hn k' a (by omega))
end ZUI
section ZUJ
variable {K L W ar kd : Int → Int} {TN Ls : List Int} {nI A0 A1 : Int} {own : Nat → Nat × Nat} {b n W' N T F H S0 : Nat} {G : PG} {S O E pl plx c Vn vt Lc : Nat} {s : yS} {S' : Scp} {β0 β1 fa lo' hi' q0 : Int} {fr b0 b1 : Nat} {As Bs : List (List Nat)} {Ev : Env} {st : List Itm} {bs : Nat} {frs : List Frm} {vs : Vls} {C : List Ins}
/-- which func is called, its code -/
theorem call_fc {v kf g : Nat} {wd : Int} (hPR : PRm K L W ar kd nI lo' hi' TN Ls) (hTB : TBr K L W ar kd TN Ls nI b s) (hCK : CK own b n N T F H S0 G s) (hq : wTk K nI q0) (hwq : (s.2.1 217 (4002 * (b : Int) + q0).toNat).toInt = wd) (hvT : v / 8 < gT G) (f1 : kf < F) (f2 : g = gfh G kf) (f4 : isHd G (v / 8) wd g (4000 + 6 * kf)) : ∃ (i : Nat) (t : Int), Ls[i]? = some t ∧ K t = 6 ∧ kf = kFn K (Ls.take i) ∧ g = kHd K L (Ls.take i) ∧ fcD K L W ar kd TN Ls ((v / 8 : Nat) : Int) (W q0) = some (ghn G g, fnC K L W ar kd TN Ls (i, t)) ∧ (h_f K L (0, (f_5 K L false (0, t)).2 + 1)).length = ghn G g ∧ (h_v K L (0, (f_5 K L false (0, t)).2 + 1)).length = gvn G g ∧ ar ((v / 8 : Nat) : Int) = ((fPa K L false (0, t)).length : Int) ∧ bOK (4000 + 6 * (kf : Int)) (2000 + 6 * (g : Int)) := by
  obtain ⟨d1, d2, d3, d4, d5, d6, d7, d8, d9, d10⟩ := id hCK
  obtain ⟨hb, hn, hT24, hF60, hH, r33, r52, hA⟩ := id d1
  have gg := pgA d1
  rw [d8] at gg
  obtain ⟨gT', gF', -, gg4, -, -, gg7⟩ := gg
  obtain ⟨AA, AA1, ⟨p1, p2, p3, p4, p5, p6, p7⟩, -, pw, -⟩ := hTB
  obtain ⟨p31, p32⟩ := p3
  rw [Int.toNat_natCast] at p31
  have eF : F = kFn K Ls := by omega
  have n60 : ∀ f : Nat, (60 * (b : Int) + (f : Int)).toNat = 60 * b + f := fun f => by omega
  have n204 : ∀ h : Nat, (204 * (b : Int) + (h : Int)).toNat = 204 * b + h := fun h => by omega
  obtain ⟨i, t, h1, h6, ek⟩ := fn_dc (K := K) (show kf < kFn K Ls by omega)
  obtain ⟨t1, t2⟩ := tb_fn (L := L) (W := W) (TN := TN) h1 h6
  rw [← ek] at t1 t2
  have key : ∀ f, f < F → gfh G f = fsd K L Ls f ∧ (gso G f : Int) = cfO K L W TN Ls f ∧ gfh G f < H ∧ fsd K L Ls f < kHd K L Ls ∧ (gwd G (gfh G f) = wd ↔ hwd K L W Ls (fsd K L Ls f) = W q0) ∧ hbd K L Ls (fsd K L Ls f) = 4000 + 6 * (f : Int) := fun f hf => by
    obtain ⟨w1, w2, w3, w4, w5, w6, w7, w8⟩ := p32 f (by omega)
    obtain ⟨k1, k2, k3⟩ := gg7 f hf
    rw [n60] at w1 w2
    have e1 : gfh G f = fsd K L Ls f := by
      rw [k2]
      unfold nT
      omega
    have hlt := (d9.2.2.2.2.2.2.1 f (by omega)).1
    refine ⟨e1, by rw [k1]; unfold nT; omega, hlt, w3, ?_, w4⟩
    rw [(gg4 _ hlt).2.2.2, ← pw q0 hq _ w3]
    unfold wHr nT
    rw [n204, e1, hwq]
  obtain ⟨ke1, ke2, ke3, ke4, ke5, ke6⟩ := key kf f1
  have eg : g = kHd K L (Ls.take i) := by rw [f2, ke1, t1]
  obtain ⟨-, k, a1, a2, a3, a4, a5, a6⟩ := f4.resolve_right (fun w => by
    obtain ⟨-, j, -, -, -, w5, -⟩ := w
    omega)
  have ek' : k = kf := by omega
  rw [ek'] at a2 a3 a6
  have fx : fxD K L W TN Ls ((v / 8 : Nat) : Int) (W q0) = (kf : Int) := by
    unfold fxD
    refine lFw_is ?_ ?_ _ (by omega) (fun k' b1 b2 => ?_)
    · rw [← ke2, a2]
    · exact ke5.mp a3
    · rintro ⟨c1, c2⟩
      obtain ⟨m1, m2, m3, m4, m5, m6⟩ := key k' (by omega)
      exact a6 k' (by omega) b1 ⟨by omega, m5.mpr c2⟩
  have hd0 : (dHd K L t)[0]? = some (f_5 K L false (0, t)).2 := by
    unfold dHd
    rw [if_pos h6]
    rfl
  have hb0 := tb_hd (W := W) (ar := ar) (TN := TN) h1 hd0
  rw [Nat.add_zero, ← eg] at hb0
  obtain ⟨e1, -, -, -⟩ := hb0
  have gk : g < kHd K L Ls := by
    rw [f2, ke1]
    exact ke4
  obtain ⟨⟨⟨m1, m2⟩, -⟩, mb, -⟩ := p5 g gk
  rw [n204] at m1 m2
  have g4 := gg4 g (by rw [f2]; exact ke3)
  rw [e1] at m1 m2
  have l1 : (h_f K L (0, (f_5 K L false (0, t)).2 + 1)).length = ghn G g := by
    have m1 : (s.2.1 245 (204 * b + g)).toInt = ((h_f K L (0, (f_5 K L false (0, t)).2 + 1)).length : Int) := m1
    rw [g4.1]
    unfold nT
    omega
  have l2 : (h_v K L (0, (f_5 K L false (0, t)).2 + 1)).length = gvn G g := by
    have m2 : (s.2.1 248 (204 * b + g)).toInt = ((h_v K L (0, (f_5 K L false (0, t)).2 + 1)).length : Int) := m2
    rw [g4.2.1]
    unfold nT
    omega
  have ff := (fn_fact hPR h1 h6).2.2
  refine ⟨i, t, h1, h6, ek, eg, ?_, l1, l2, ?_, ?_⟩
  · unfold fcD
    rw [fx, if_pos (by omega), Int.toNat_natCast, ek, fnQi_at Ls i 0 t h1 h6, Nat.zero_add]
    show some ((h_f K L (0, (f_5 K L false (0, t)).2 + 1)).length, fnC K L W ar kd TN Ls (i, t)) = _
    rw [l1]
  · rw [← ff, ← t2, ← ke2, a2]
  · rw [← ke6, ← ke1, ← f2]
    exact mb
set_option maxHeartbeats 2000000 in
/-- evalCall -/
theorem m_245 {d e w0 v kf g t : Nat} {Vs Ds : List (List Nat)} {Ar : List Nat} {wd : Int} {a1 a2 a3 : Int32} {AW : List Int} {ps vals : List Nat} {Yv : List (List Int)} (hPR : PRm K L W ar kd nI lo' hi' TN Ls) (hFO : FOk K L W ar kd TN Ls nI) (hA1 : A1 ≤ 13000) (ih : REH own b n W' N T F H S0 G S O (c + 1) 11 d) (ihS : RSm K L W ar kd TN Ls nI A0 A1 own b n W' N T F H S0 G S O (c + 1) 11 d) (hd : 4 ≤ d) (hR : RTm own b n W' N T F H S0 G S O (E + 1) plx c Vn vt Lc s) (hc : c < 40) (h93 : (s.1 93).toInt + 1 ≤ (Lc : Int)) (hE : E ≤ c + 1) (hplx : pl < plx ∧ plx ≤ pl + 7) (hpl : plx + 77 + 80 * (39 - c) ≤ 4000) (hN : N ≤ 12006) (he : e < 12006) (h1 : a1.toInt = (e : Int)) (h2 : a2.toInt = (pl : Int)) (h3 : a3.toInt = (E : Int)) (ht : (s.2.1 222 e).toInt = (t : Int)) (ht2 : t < 12006) (hwq : (s.2.1 217 t).toInt = wd)
    (h278 : (s.2.1 278 pl).toInt = (w0 : Int)) (hw0 : w0 < Vn) (hcV : cutT (VT s w0) v Vs) (f1 : kf < F) (f2 : g = gfh G kf) (f4 : isHd G (v / 8) wd g (4000 + 6 * kf)) (hvT : v / 8 < gT G) (hDs : (s.2.1 266 (2 * E + 1)).toInt = (Ds.length : Int)) (hD6 : Ds.length ≤ 6) (hDc : ∀ (a : Nat) (A : List Nat), Ds[a]? = some A → isF 1 A ∧ ∃ q : Nat, (s.2.1 267 (12 * E + 6 + a)).toInt = (q : Int) ∧ (s.2.1 268 (12 * E + 6 + a)).toInt = (A.length : Int) ∧ seg s q A.length = A ∧ q + A.length ≤ vt)
    (hτ : wEnv G (scHg G g) (envS (4000 + 6 * kf) Vs (2000 + 6 * g) Ds)) (hthis : subs (envS (4000 + 6 * kf) Vs (2000 + 6 * g) Ds) (thisT G kf) = VT s w0) (hres : subs (envS (4000 + 6 * kf) Vs (2000 + 6 * g) Ds) (ght G g) = Ar) (hpx : plx = pl + 1 + gvn G g) (hpa : ∀ j, j < gvn G g → ∃ w : Nat, (s.2.1 278 (pl + 1 + j)).toInt = (w : Int) ∧ w < Vn ∧ impl G (VT s w) (subs (envS (4000 + 6 * kf) Vs (2000 + 6 * g) Ds) (gvt G g j)))
    (hSC : SCx K L W ar kd TN Ls nI A0 A1 b G S' β0 β1 b0 b1 As Bs Ev st bs fr pl frs vs c Vn s) (hq : wTk K nI q0) (hqt : (t : Int) = 4002 * (b : Int) + q0) (hvw : vs[w0]? = some (AW, ps)) (hvl : vals.length = gvn G g) (hva : ∀ (j w : Nat), vals[j]? = some w → (s.2.1 278 (pl + 1 + j)).toInt = (w : Int)) (hYl : Ds = Yv.map (enN ar 0 0)) (hYg : ∀ A ∈ Yv, TGo ar (TN.length : Int) 0 0 A) (hDg : Ds.length = ghn G g) (hh : st.length + 8 ≤ 88 * (c + 1)) : Tot (d + 1) 245 [.ref 213, .int a1, .int a2, .int a3] s (fun v s' => ∃ Cf : List Ins, fcD K L W ar kd TN Ls (AW.headD 0) (W q0) = some (Yv.length, Cf) ∧ SmQ ar (fcD K L W ar kd TN Ls) (mvC K L W ar kd TN Ls) (TN.length : Int) G (5, Cf, st ++ .inr w0 :: vals.map .inr, st.length, (argT ar AW, Yv), (C, bs, Ev) :: frs, vs, lft s, (s.1 93).toInt + 1, fa) C st bs Ev frs vs (lft s) fa 2 (80 + 100 * (40 - (c : Int))) s v s') := by
  obtain ⟨hTB, hCD⟩ := hSC.1
  obtain ⟨hV, hVn⟩ := hSC.2.2.1
  have hfc := hSC.2.2.2.1.2.2
  have hl0 := hSC.2.2.2.2
  obtain ⟨ha, h24⟩ := PR_ar hPR
  obtain ⟨tW1, tW2, -, -⟩ := hV w0 AW ps hvw
  have hcV' := hcV
  rw [tW2] at hcV'
  obtain ⟨hh1, hh2, hh3, hh4⟩ := hd_enN ha tW1.2.2 hcV'.1
  have hVs := cut_arg ha tW1 hcV'
  obtain ⟨ii, tt, ci1, ci2, ci3, ci4, ci5, ci6, ci7, ci8, ci9⟩ := call_fc hPR hTB hR.1 hq (by rw [← hqt, Int.toNat_natCast]; exact hwq) hvT f1 f2 f4
  obtain ⟨o1, o2, o3, o4⟩ := hFO ii tt ci1 ci2
  have hv := RT_vt hR
  obtain ⟨r1, r2, r3, r4, r5, r6, r7, r8, r9, r10, r11, r12, r13, r14, r15, r16, r17, r18, r19⟩ := id hR
  obtain ⟨d1, d2, d3, d4, d5, d6, d7, d8, d9, d10⟩ := id r1
  obtain ⟨hb, hn, hT24, hF60, hH, r33, r52, hA⟩ := id d1
  have gg := pgA d1
  rw [d8] at gg
  obtain ⟨gT', gF', -, -, -, -, gg7⟩ := gg
  obtain ⟨w1, w2, w3, w4⟩ := d9.2.2.2.2.2.2.1 kf (by omega)
  obtain ⟨p, l, xv, Av, v1, v2, v3, v4, v5, v6, v7, v8, v9, v10⟩ := r17 w0 hw0
  have eVT : VT s w0 = seg s p l := by unfold VT; rw [show (s.2.1 275 w0).toInt.toNat = p by omega, show (s.2.1 276 w0).toInt.toNat = l by omega]
  have n57 : ∀ f, f < F → (s.2.1 257 (60 * b + f)).toInt = 204 * (b : Int) + (gfh G f : Int) := fun f hf => by
    have := (hA.2.2.1 f hf).2.1
    rw [(gg7 f hf).2.1]
    unfold nT
    omega
  have hv6 := (d9.2.2.1 g (by rw [f2]; exact w1)).2
  have e1 : a1.toInt.toNat = e := by omega
  have e2 : a2.toInt.toNat = pl := by omega
  refine t_245 ?_
  unfold w_245_0
  rw [e1, e2, show (s.2.1 278 pl).toInt.toNat = w0 by omega, show (s.2.1 222 e).toInt.toNat = t by omega]
  refine ⟨by omega, by omega, by omega, by omega, ?_⟩
  have hcut := hcV
  rw [eVT] at hcut
  refine Tot.imp (Tot.mono (by omega) (s_193 (e := 0) (H := H) (p := p) (c := v / 8) d1 d5 d7 v1 (by omega) (by rw [(cut_len hcut).2]) (by omega) d3)) ?_
  rintro vv u ⟨X, Y, rfl, r, rfl, hr⟩
  rw [d8, hwq] at hr
  obtain ⟨-, h', cd', q1, q2, q3, q4⟩ := hr.resolve_right (fun w => hd_no f4 w.2.2)
  clear hr
  obtain ⟨e3, e4⟩ := isHd_inj q4 f4
  subst e3 e4
  refine ⟨r, rfl, ?_⟩
  obtain ⟨u, hu⟩ : ∃ u, u = sf (sf s 73 X) 74 Y := ⟨_, rfl⟩
  rw [← hu]
  have u2 : u.2 = s.2 := by rw [hu]; rfl
  have uk : ∀ k, ¬ k = 73 → ¬ k = 74 → u.1 k = s.1 k := fun k k1 k2 => by rw [hu, sf_1, if_neg k2, sf_1, if_neg k1]
  have u73 : u.1 73 = X := by rw [hu]; rfl
  have u74 : u.1 74 = Y := by rw [hu]; rfl
  clear hu
  rw [u73]
  refine Tot.imp (Tot.mono (by omega) (s_246 (d := 0) (b := b) (F := F) (k := kf) (a1 := X) hb (by rw [uk 75 (by decide) (by decide)]; exact d7) hF60 f1 (by rw [u2, n57 kf f1]; omega) (fun f hf heq => ?_))) ?_
  · rw [u2, n57 f hf] at heq
    exact d9.2.2.2.2.2.2.2.1 f kf (by omega) (by omega) (by omega)
  rintro vv u' ⟨es, x6, rfl, hx6⟩
  have es := es.symm
  subst es
  refine ⟨x6, rfl, ?_⟩
  rw [u74]
  have segu : seg u p l = seg s p l := seg_2 u2
  have hV6 : Vs.length ≤ 6 := by
    rw [hcut.2.2]
    rcases (okE_cut hcut v6).1 with z | z
    · have := (d9.2.1 _ z.1).1
      omega
    · omega
  refine Tot.imp (Tot.mono (by omega) (s_189 (d := 0) (e := E) (g := 0) (c := 4000 + 6 * kf) (p := p) (l := l) (P := vt) (x := v) (As := Vs) (fun i => by rw [u2]; exact d5 i) h3 (by omega) (by decide) (by decide) q3 v1 (by rw [segu]; exact hcut.1) hcut.2.1 hcut.2.2 hV6 v3.1 (by omega))) ?_
  rintro vv z ⟨rfl, hGF, hEV⟩
  refine ⟨rfl, ?_⟩
  have z75 : (z.1 75).toInt = (b : Int) := by rw [hGF.1, uk 75 (by decide) (by decide)]; exact d7
  have z73 : (z.1 73).toInt = 204 * (b : Int) + h' := by rw [hGF.1, u73]; exact q2
  refine ⟨by omega, fun y9 hy9 => ⟨by omega, fun y10 hy10 => ⟨by omega, fun y11 hy11 => ⟨by omega, fun y12 hy12 => ⟨by omega, fun y13 hy13 => ⟨by omega, fun y14 hy14 => ⟨by omega, ?_⟩⟩⟩⟩⟩⟩⟩
  rintro s15 rfl
  rw [show y10.toInt.toNat = 2 * E + 1 by omega]
  have p106 : (sa z 265 (2 * E + 1) y14).1 106 = s.1 106 := by show z.1 106 = _; rw [hGF.1, uk 106 (by decide) (by decide)]
  rw [p106]
  refine ⟨by omega, ?_⟩
  rintro x16 hx16 s17 rfl
  have p93 : (sf (sa z 265 (2 * E + 1) y14) 106 x16).1 93 = s.1 93 := by show z.1 93 = _; rw [hGF.1, uk 93 (by decide) (by decide)]
  rw [p93]
  refine ⟨by omega, ?_⟩
  rintro x18 hx18 s19 rfl
  obtain ⟨f, hf⟩ : ∃ f, f = sf (sf (sa z 265 (2 * E + 1) y14) 106 x16) 93 x18 := ⟨_, rfl⟩
  rw [← hf]
  have zc : ∀ q i, ¬ ((q = 265 ∨ q = 266) ∧ i = 2 * E) → ¬ ((q = 267 ∨ q = 268) ∧ 12 * E ≤ i ∧ i < 12 * E + 6) → z.2.1 q i = s.2.1 q i := fun q i w1 w2 => by rw [hGF.2.1 q i (fun w => by omega), u2]
  have fc : ∀ q i, ¬ (q = 265 ∧ i = 2 * E + 1) → f.2.1 q i = z.2.1 q i := fun q i w => by
    rw [hf]
    show (sa z 265 (2 * E + 1) y14).2.1 q i = _
    rw [sa_2, if_neg w]
  have f265 : (f.2.1 265 (2 * E + 1)).toInt = ((2000 + 6 * h' : Nat) : Int) := by
    rw [hf]
    show ((sa z 265 (2 * E + 1) y14).2.1 265 (2 * E + 1)).toInt = _
    rw [sa_2, if_pos ⟨rfl, rfl⟩]
    omega
  have fk : ∀ k, k ∉ [73, 74, 93, 106] → f.1 k = s.1 k := fun k hk => by
    rw [hf, sf_1, if_neg (fun w => hk (by rw [w]; decide)), sf_1, if_neg (fun w => hk (by rw [w]; decide))]
    show z.1 k = _
    rw [hGF.1, uk k (fun w => hk (by rw [w]; decide)) (fun w => hk (by rw [w]; decide))]
  have f106 : (f.1 106).toInt = ((c + 1 : Nat) : Int) := by rw [hf]; show x16.toInt = _; omega
  have f93 : (f.1 93).toInt = (s.1 93).toInt + 1 := by rw [hf]; exact hx18
  have fl : f.2.2 = s.2.2 := by rw [hf]; show z.2.2 = _; rw [hGF.2.2, u2]
  clear hf
  have fX : RX [73, 74, 93, 106] E plx Vn vt s f := by
    refine ⟨fk, fun q i _ c2 c3 _ _ _ => ?_, fl, fun i => by rw [fc 264 i (fun w => by omega), zc 264 i (fun w => by omega) (fun w => by omega)]; exact d5 i, fun i => ?_⟩
    · rw [fc q i (fun w => c2 ⟨Or.inl w.1, by omega⟩), zc q i (fun w => c2 ⟨w.1, by omega⟩) (fun w => c3 ⟨w.1, by omega⟩)]
    · by_cases w : i = 2 * E + 1
      · rw [w]; omega
      · rw [fc 265 i (fun w' => w w'.2)]
        by_cases w' : i = 2 * E
        · rw [w']
          have := hEV.1
          rw [show 2 * E + 0 = 2 * E from rfl] at this
          omega
        · rw [zc 265 i (fun w'' => w' w''.2) (fun w => by omega)]
          exact d6 i
  have fR : RTm own b n W' N T F H S0 G S O (E + 1) plx (c + 1) Vn vt Lc f := RT_rx hR fX (by decide) (by rw [fk 70 (by decide)]; exact r4) (by rw [fk 105 (by decide)]; exact r5) f106 (by rw [fk 98 (by decide)]; exact r7) (by rw [fk 97 (by decide)]; exact r8) (by rw [fk 95 (by decide)]; exact r9) (by rw [fk 96 (by decide)]; exact r11) (by rw [fk 94 (by decide)]; exact r12) (by rw [f93]; omega) (Nat.le_refl _) (Nat.le_refl _) r16 (by omega)
  have fVT : ∀ w, w < Vn → VT f w = VT s w := fun w hw => RX_VT fX hw (r17 w hw) (by omega)
  have fseg : ∀ {p l}, p + l ≤ vt → seg f p l = seg s p l := fun hh => RX_seg fX hh (by omega)
  have fV : EV f E vt (4000 + 6 * kf) Vs (2000 + 6 * h') Ds := by
    refine ⟨EVg_mv (s := z) hEV (fc _ _ (fun w => by omega)) (fc _ _ (fun w => by omega)) (fun a ha => ⟨fc _ _ (fun w => by omega), fc _ _ (fun w => by omega)⟩) (fun j _ => fc _ _ (fun w => by omega)) (Nat.le_refl _), f265, ?_, hD6, fun a A hA => ?_⟩
    · rw [fc 266 _ (fun w => by omega), zc 266 _ (fun w => by omega) (fun w => by omega)]
      exact hDs
    · have ha : a < 6 := by
        by_cases q : a < Ds.length
        · omega
        · rw [List.getElem?_eq_none (by omega)] at hA
          cases hA
      obtain ⟨k1, q, k2, k3, k4, k5⟩ := hDc a A hA
      rw [show 6 * (2 * E + 1) + a = 12 * E + 6 + a by omega]
      refine ⟨k1, q, ?_, ?_, by rw [fseg k5]; exact k4, k5⟩
      · rw [fc 267 _ (fun w => by omega), zc 267 _ (fun w => by omega) (fun w => by omega)]
        exact k2
      · rw [fc 268 _ (fun w => by omega), zc 268 _ (fun w => by omega) (fun w => by omega)]
        exact k3
  have f278 : ∀ i, f.2.1 278 i = s.2.1 278 i := fun i => by rw [fc 278 i (fun w => by omega), zc 278 i (fun w => by omega) (fun w => by omega)]
  have hVst := VOK_vSt (r17 w0 hw0)
  have fC : RCx G (some kf) (E + 1) plx Vn vt pl E (4000 + 6 * kf) Vs (2000 + 6 * h') Ds f := by
    refine ⟨by omega, fV, by show wEnv G (scHg G (gfh G kf)) _; rw [← f2]; exact hτ, fun k A hA => ?_⟩
    have htv : tVX G (some kf) k = if k = 0 then some (thisT G kf) else if k - 1 < gvn G (gfh G kf) then some (gvt G (gfh G kf) (k - 1)) else none := rfl
    rw [htv, ← f2] at hA
    split at hA
    · rename_i hk0
      refine ⟨by omega, w0, by rw [hk0, f278]; exact h278, hw0, ?_⟩
      rw [← Option.some.inj hA, hthis, fVT w0 hw0]
      obtain ⟨-, x0, A0', c0, -, s0⟩ := hVst
      exact ⟨x0, A0', c0, Or.inl ⟨Or.inr s0, rfl⟩⟩
    · rename_i hk0
      split at hA
      · rename_i hk1
        obtain ⟨w, z1, z2, z3⟩ := hpa (k - 1) hk1
        rw [show pl + 1 + (k - 1) = pl + k by omega] at z1
        refine ⟨by omega, w, by rw [f278]; exact z1, z2, ?_⟩
        rw [← Option.some.inj hA, fVT w z2]
        exact z3
      · cases hA
  obtain ⟨eb, lb, hb', Ab, b1, b2, b3, b4, b5⟩ := fR.2.2.1 kf f1
  rw [show x6.toInt.toNat = 60 * b + kf by omega]
  refine ⟨by omega, ?_⟩
  -- the callee's scope
  have lYv : Yv.length = ghn G h' := by rw [← hDg, hYl, List.length_map]
  obtain ⟨cA, lA, eA⟩ : ∃ cA lA, AW = cA :: lA := by
    cases hq' : AW with
    | nil =>
      rw [hq'] at tW1
      exact absurd rfl (isR_ne tW1.1)
    | cons a l => exact ⟨a, l, rfl⟩
  have aP := argT_P (nX := 0) (nY := 0) (nT := (TN.length : Int)) ha (by rw [← eA]; exact tW1.1) (by rw [← eA]; exact tW1.2.2) (by rw [← eA]; exact tW1.2.1.2)
  have aO := (argT_ok ha (by rw [← eA]; exact tW1.1)).1
  rw [← eA] at aP aO
  have hcA : cA = ((v / 8 : Nat) : Int) := by
    rw [← hh4, eA]
    rfl
  have lAr : (argT ar AW).length = (fPa K L false (0, tt)).length := by
    have := aP.2
    rw [hcA, ci8] at this
    omega
  have lVs : (argT ar AW).length = Vs.length := by rw [hVs, List.length_map]
  have lfr : ((st ++ .inr w0 :: vals.map .inr : List Itm)).length = st.length + 1 + gvn G h' := by
    rw [List.length_append, List.length_cons, List.length_map, hvl]
    omega
  have enE : enK ar (TN.length : Int) (argT ar AW, Yv) := by
    refine ⟨⟨by show (argT ar AW).length ≤ 6; omega, by show Yv.length ≤ 6; omega⟩, fun A hA => ?_, hYg⟩
    obtain ⟨z1, z2, z3⟩ := aP.1 A hA
    have z4 := flt_le _ _ hA
    rw [aO] at z4
    have z5 := tW1.2.1.1
    rw [eA, List.length_cons] at z5
    exact ⟨z1, ⟨by omega, z3⟩, z2⟩
  have fTB : TBr K L W ar kd TN Ls nI b f := TBr_rx fX (by omega) (by decide) hTB
  have fcl : ∀ (i : Nat) (t : Int), Ls[i]? = some t → K t = 6 → ∃ x' y' : Int, 0 ≤ x' ∧ eC K L W ar kd TN Ls (4002 * (b : Int)) (4000 + 6 * (kFn K (Ls.take i) : Int)) (2000 + 6 * (kHd K L (Ls.take i) : Int)) (fnS K L W ar TN Ls i t) A0 A1 f 10 x' y' (f_7 K L false (0, t)).2 (f.2.1 258 (60 * (b : Int) + (kFn K (Ls.take i) : Int)).toNat).toInt := fun i t h1 h6 => by
    obtain ⟨x', y', w1, w2⟩ := hCD i t h1 h6
    refine ⟨x', y', w1, ?_⟩
    rw [RX_lo fX (q := 258) (by decide)]
    exact eC_rx fX (by omega) hA1 w2
  have flf : lft f = lft s := by
    unfold lft
    rw [fk 96 (by decide), fk 95 (by decide), fk 94 (by decide)]
  have fSC : SCx K L W ar kd TN Ls nI A0 A1 b G (fnS K L W ar TN Ls ii tt) (4000 + 6 * (kFn K (Ls.take ii) : Int)) (2000 + 6 * (kHd K L (Ls.take ii) : Int)) (4000 + 6 * kf) (2000 + 6 * h') Vs Ds (argT ar AW, Yv) (st ++ .inr w0 :: vals.map .inr) st.length pl plx ((C, bs, Ev) :: frs) vs (c + 1) Vn f := by
    refine ⟨⟨fTB, fcl⟩, ⟨⟨enE, ⟨⟨hVs, hYl⟩, Or.inr ⟨by omega, by omega, ?_⟩⟩⟩, ⟨lAr, ?_⟩, ?_, ?_⟩, ⟨vRl_rx fX r17 (by omega) hVn hV, hVn⟩, ⟨⟨?_, fun k hk => ?_⟩, fun _ => by simp, by rw [List.length_cons]; omega⟩, by omega⟩
    · rw [← ci3, ← ci4]
      exact ci9
    · show Yv.length = (h_f K L (0, (f_5 K L false (0, tt)).2 + 1)).length
      omega
    · show (h_f K L (0, (f_5 K L false (0, tt)).2 + 1)).length ≤ 6
      omega
    · show (fPa K L false (0, tt)).length ≤ 6
      omega
    · show pl + (_ :: h_v K L (0, (f_5 K L false (0, tt)).2 + 1)).length ≤ plx
      rw [List.length_cons]
      omega
    · have hk : k < ((f_1 K L false (0, tt)).2 :: h_v K L (0, (f_5 K L false (0, tt)).2 + 1)).length := hk
      rw [List.length_cons] at hk
      rw [f278]
      cases k with
      | zero => exact ⟨w0, h278, by rw [List.getElem?_append_right (by omega), Nat.add_zero, Nat.sub_self]; rfl⟩
      | succ k =>
        obtain ⟨w, hw⟩ : ∃ w, vals[k]? = some w := ⟨_, List.getElem?_eq_getElem (by omega)⟩
        refine ⟨w, ?_, ?_⟩
        · have := hva k w hw
          rw [show pl + 1 + k = pl + (k + 1) by omega] at this
          exact this
        · rw [List.getElem?_append_right (by omega), show st.length + (k + 1) - st.length = k + 1 by omega, List.getElem?_cons_succ, List.getElem?_map, hw]
          rfl
  obtain ⟨xe, ye, xe0, eCe⟩ := fcl ii tt ci1 ci2
  have e258 : (f.2.1 258 (60 * (b : Int) + (kFn K (Ls.take ii) : Int)).toNat).toInt = (eb : Int) := by
    rw [← b1, show (60 * (b : Int) + (kFn K (Ls.take ii) : Int)).toNat = 60 * b + kf by omega]
  rw [e258] at eCe
  have fEC : ECx K L W ar kd TN Ls nI A0 A1 b (fnS K L W ar TN Ls ii tt) (4000 + 6 * (kFn K (Ls.take ii) : Int)) (2000 + 6 * (kHd K L (Ls.take ii) : Int)) 10 xe ye (f_7 K L false (0, tt)).2 (eb : Int) f := ⟨eCe, by decide, o1, o2, o3, o4⟩
  refine Tot.imp (Tot_and (ih f _ a2 a3 (some kf) lb hb' eb pl E (4000 + 6 * kf) (2000 + 6 * h') (E + 1) plx Vn vt Lc Vs Ds Ab fR fC (fun f' hf' => by cases hf'; exact f1) b4 b3 hN (by omega) (by omega) b1 h2 h3) (ihS f _ a2 a3 (some kf) lb hb' eb pl E (4000 + 6 * kf) (2000 + 6 * h') (E + 1) plx Vn vt Lc Vs Ds Ab (fnS K L W ar TN Ls ii tt) (4000 + 6 * (kFn K (Ls.take ii) : Int)) (2000 + 6 * (kHd K L (Ls.take ii) : Int)) 10 xe ye (f_7 K L false (0, tt)).2 (argT ar AW, Yv) (st ++ .inr w0 :: vals.map .inr) st.length ((C, bs, Ev) :: frs) vs fa [lvI] fR fC (fun f' hf' => by cases hf'; exact f1) b4 b3 hN (by omega) (by omega) b1 h2 h3 fSC fEC (by rw [lfr]; omega))) ?_
  rintro vv s20 ⟨⟨rr, -, -, -, Vn', vt', L', R20, -⟩, x22, vs2, cl2, N2, rfl, ⟨⟨ws2, g1⟩, g2, g3⟩, ⟨g4, g5, g6, g7⟩, g8, g9⟩
  have m6 := R20.2.2.2.2.2.1
  refine ⟨x22, rfl, by omega, ?_⟩
  rintro x23 hx23 s24 rfl
  have kk : ∀ j, ¬ j = 106 → (sf s20 106 x23).1 j = s20.1 j := fun j hj => by rw [sf_1, if_neg hj]
  have el : lft (sf s20 106 x23) = lft s20 := by
    unfold lft
    rw [kk 96 (by decide), kk 95 (by decide), kk 94 (by decide)]
  rw [flf] at g5 g9
  have f92 : f.1 92 = s.1 92 := fk 92 (by decide)
  have f96 : kp6 s f := kp6_e (fun k w => by rcases w with rfl | rfl | rfl <;> exact fk _ (by decide)) kp6_rf
  refine ⟨fnC K L W ar kd TN Ls (ii, tt), by rw [hh4, ci5, lYv], x22, vs2, cl2, if x22.toInt = 0 then N2 + 1 else N2, rfl, ⟨⟨ws2, g1⟩, vRl_2 (s := s20) rfl g2, by rw [kk 98 (by decide)]; exact g3⟩, ⟨by rw [el]; exact g4, by rw [el]; exact g5, by rw [kk 93 (by decide)]; exact g6, kp6_e (fun k w => by rcases w with rfl | rfl | rfl <;> exact kk _ (by decide)) (kp6_tr f96 g7)⟩, fun w => by rw [kk 92 (by decide), g8 w]; exact f92, ?_⟩
  rw [f93] at g9
  rw [el]
  rcases g9 with ⟨y1, w, y2, y3, y4, y5⟩ | ⟨y1, Y, y2, y3, y4, y5, y6, y7, y8⟩
  · rw [if_pos y1]
    refine Or.inl ⟨y1, w, by rw [kk 102 (by decide)]; exact y2, y3, by omega, PSn_tr _ _ _ _ _ y5 (PSn_1 ⟨rfl, ?_, ?_⟩)⟩
    · rw [List.length_append, lfr]
      show st.length + 1 + gvn G h' + 1 ≤ 3900
      omega
    · refine Or.inr (Or.inr (Or.inr (Or.inr (Or.inr (Or.inr ⟨rfl, st ++ .inr w0 :: vals.map .inr, w, rfl, Or.inr ⟨C, bs, Ev, frs, rfl, by rw [List.length_append]; omega, ?_⟩⟩)))))
      rw [List.append_assoc, List.take_left]
  · rw [if_neg y1]
    refine Or.inr ⟨y1, Y, y2, y3, y4, y5, y6, fun w => by rw [kk 92 (by decide)]; exact y7 w, ?_⟩
    have e80 : (8 : Int) * ((10 : Nat) : Int) + 100 * (41 - ((c + 1 : Nat) : Int)) = 80 + 100 * (40 - (c : Int)) := by omega
    omega
end ZUJ
