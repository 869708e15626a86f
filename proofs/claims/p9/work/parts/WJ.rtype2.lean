/-! ===== the reference: typeWords, whole ===== -/
section WTJ
variable {d : Nat} {s s' s'' u u' : yS} {B b b0 b1 n : Int} {K L W ar kd : Int → Int} {hf tp TN : List Int} {lo hi mi a x y t f h q A D : Int} {a1 a2 a3 : Int32} {w : Nat → Int → List Int} {F : Int → Int} {Ls : List Int}
theorem YA_W {p r : Nat} (hp : ¬ p = 231 ∧ ¬ p = 232 ∧ ¬ p = 264 ∧ ¬ p = 261) (hr : ¬ r = 231 ∧ ¬ r = 232 ∧ ¬ r = 264 ∧ ¬ r = 261) (g : ∀ p, ¬ p = 231 → ¬ p = 232 → ¬ p = 264 → ¬ p = 261 → s'.2.1 p = s.2.1 p) (h1 : YA K L B s p r f x y Ls) : YA K L B s' p r f x y Ls := fun i t' ht => by
  obtain ⟨k1, a', b', k2, k3, k4, k5⟩ := h1 i t' ht
  rw [g p hp.1 hp.2.1 hp.2.2.1 hp.2.2.2, g r hr.1 hr.2.1 hr.2.2.1 hr.2.2.2]
  exact ⟨k1, a', b', k2, k3, k4, yT_eq 10 _ _ _ k5 ⟨fun z j hz _ _ => by rw [g z (by omega) (by omega) (by omega) (by omega)], fun j _ _ => by rw [g 225 (by decide) (by decide) (by decide) (by decide)]⟩⟩
theorem HDr_W (g : ∀ p, ¬ p = 231 → ¬ p = 232 → ¬ p = 264 → ¬ p = 261 → s'.2.1 p = s.2.1 p) (h1 : HDr K L B s h x y q) : HDr K L B s' h x y q := by
  obtain ⟨⟨t1, t2, t3, t4⟩, ⟨t5, t6, t7⟩, ta, tb, t8, t9, t10, t11⟩ := h1
  refine ⟨⟨by rw [g 244 (by decide) (by decide) (by decide) (by decide)]; exact t1, by rw [g 245 (by decide) (by decide) (by decide) (by decide)]; exact t2, t3, YA_W (by decide) (by decide) g t4⟩, ⟨by rw [g 248 (by decide) (by decide) (by decide) (by decide)]; exact t5, t6, YA_W (by decide) (by decide) g t7⟩, ta, tb, t8, t9, by rw [g 251 (by decide) (by decide) (by decide) (by decide)]; exact t10, ?_⟩
  exact yT_eq 10 _ _ _ t11 ⟨fun z j hz _ _ => by rw [g z (by omega) (by omega) (by omega) (by omega)], fun j _ _ => by rw [g 225 (by decide) (by decide) (by decide) (by decide)]⟩
/-- the tables that all scopes need -/
def RBh (K L W ar kd : Int → Int) (n B b : Int) (s : yS) (TN : List Int) : Prop := (s.1 75).toInt = b ∧ WEQ K W B n s ∧ RTk K L B n s ∧ TNr B b s TN ∧ (∀ c : Int, 0 ≤ c → c < (TN.length : Int) → (s.2.1 236 (24 * b + c).toNat).toInt = ar c) ∧ KDr b s kd TN
theorem RBh_W (g : ∀ p, ¬ p = 231 → ¬ p = 232 → ¬ p = 264 → ¬ p = 261 → s'.2.1 p = s.2.1 p) (g75 : s'.1 75 = s.1 75) (h1 : RBh K L W ar kd n B b s TN) : RBh K L W ar kd n B b s' TN := by
  obtain ⟨k0, k1, k2, k3, k4, k5⟩ := h1
  refine ⟨by rw [g75]; exact k0, ?_, ?_, ?_, ?_, ?_⟩
  · unfold WEQ at *
    rw [g 217 (by decide) (by decide) (by decide) (by decide)]
    exact k1
  · unfold RTk at *
    rw [g 217 (by decide) (by decide) (by decide) (by decide), g 215 (by decide) (by decide) (by decide) (by decide), g 216 (by decide) (by decide) (by decide) (by decide)]
    exact k2
  · unfold TNr NTr at *
    rw [g 233 (by decide) (by decide) (by decide) (by decide), g 234 (by decide) (by decide) (by decide) (by decide)]
    exact k3
  · rw [g 236 (by decide) (by decide) (by decide) (by decide)]
    exact k4
  · unfold KDr at *
    rw [g 235 (by decide) (by decide) (by decide) (by decide)]
    exact k5
theorem SCp_W (g : ∀ p, ¬ p = 231 → ¬ p = 232 → ¬ p = 264 → ¬ p = 261 → s'.2.1 p = s.2.1 p) {c76 c78 : Int} (h1 : SCp B b s c76 c78 tp b0) : SCp B b s' c76 c78 tp b0 := by
  unfold SCp NTr at *
  rw [g 236 (by decide) (by decide) (by decide) (by decide), g 237 (by decide) (by decide) (by decide) (by decide), g 255 (by decide) (by decide) (by decide) (by decide), g 256 (by decide) (by decide) (by decide) (by decide)]
  exact h1
set_option maxHeartbeats 4000000 in
theorem x_209 (hX : TXp K L n) (hb : 0 ≤ b) (hB : 0 ≤ B) (hS : SPr K ar n [] (tFo K L false (0, t)) TN (1000 + 6 * (D - 24 * b)) 2000) (h1 : a1.toInt = D) (hD : 24 * b ≤ D) (hh : 0 ≤ h ∧ 204 * b ≤ h) (hT : TYr K L B s D h x y t) (ht0 : 0 ≤ t) (hp : (p_ty K L false (0, t)).1 = 0) (hn : (p_ty K L false (0, t)).2 ≤ n) (hm1 : tSt K L false (0, t) = true → ∀ v ∈ tMe K L false (0, t), 0 ≤ v) (hm2 : tSt K L false (0, t) = false → ∀ z ∈ tMe K L false (0, t), 0 ≤ z ∧ (∀ v ∈ h_f K L (0, z + 1), wTk K n v) ∧ (h_f K L (0, z + 1)).length ≤ 6 ∧ ∀ v ∈ h_v K L (0, z + 1), 0 ≤ v) (h8 : 0 ≤ (s.1 8).toInt) (h65 : (s.1 8).toInt = 0 → 10 + 4100 * (B / 4002) ≤ (s.1 65).toInt) (hR : RBh K L W ar kd n B b s TN) : Par d 209 [.ref 213, .int a1] s (fun v s' => v = none ∧ TRq B (tyFs K L W ar kd TN t) (t + 2) (p_ty K L false (0, t)).2 s s' (RTY K L W ar TN B b s' (s'.1 65).toInt D h t) ∧ s'.2.1 261 = s.2.1 261) := by
  cases d with
  | zero => exact Par_0
  | succ d =>
    obtain ⟨⟨b1', b2', b3', b4', b5', b6'⟩, ⟨c1', c2', c3'⟩⟩ := hT
    obtain ⟨p1, p2, p3⟩ := ty_pc (kd' := 0) (sg := 0) hp
    have l1 := srtQ_le p1
    have l2 : (y_5 K L false (0, t)).2 ≤ (p_ty K L false (0, t)).2 := by
      cases hst : tSt K L false (0, t) with
      | true => exact srtQ_le (p2 hst)
      | false => exact srtH_le (p3 hst)
    have hf0 : ∀ v ∈ tFo K L false (0, t), 0 ≤ v := fun v hv => (hS.2.1 v hv).1
    have hD0 : 0 ≤ D := by omega
    refine pb_209 ?_
    unfold ub_209_0
    refine Par.imp x_206 ?_
    rintro v2 s1 ⟨rfl, hs1⟩
    refine ⟨rfl, ?_⟩
    have e65 : s1.1 65 = s.1 65 := by rw [hs1]; rfl
    have e8 : (s1.1 8).toInt = (s.1 8).toInt := by rw [hs1]; rfl
    have er : s1.2 = s.2 := by rw [hs1]; rfl
    have fs1 : ∀ k, ¬ k = 76 → ¬ k = 77 → ¬ k = 78 → s1.1 k = s.1 k := fun k z1 z2 z3 => by rw [hs1, sfr_1, if_neg z3, sfr_1, if_neg z2, sfr_1, if_neg z1]
    have e76 : (s1.1 76).toInt = D := by rw [hs1, sfr_1, if_neg (by decide), sfr_1, if_neg (by decide), sfr_1, if_pos rfl]; exact h1
    have e77 : (s1.1 77).toInt = -1 := by rw [hs1, sfr_1, if_neg (by decide), sfr_1, if_pos rfl]; decide
    have e78 : (s1.1 78).toInt = -1 := by rw [hs1, sfr_1, if_pos rfl]; decide
    have R1 : RBh K L W ar kd n B b s1 TN := RBh_W (fun p _ _ _ _ => by rw [er]) (fs1 75 (by decide) (by decide) (by decide)) hR
    have hNT : NTr B s 237 (6 * D) (tFo K L false (0, t)) := fun i v hv => (b4' i v hv).1
    have H1 : RVh K L W ar n B b (1000 + 6 * (D - 24 * b)) 2000 s1 [] (tFo K L false (0, t)) TN := by
      refine ⟨R1.2.1, R1.2.2.1, ⟨R1.1, Or.inl ⟨by omega, rfl⟩, Or.inl ⟨by omega, by omega, by rw [er, e76]; exact b2', ?_, by rw [e76]⟩⟩, R1.2.2.2.1, R1.2.2.2.2.1⟩
      rw [e76]
      unfold NTr
      rw [er]
      exact hNT
    clear hs1
    generalize hw0 : wdT K L (cdOf W [] (tFo K L false (0, t)) TN) ar (1000 + 6 * (D - 24 * b)) 2000 = w at *
    have hwT : wTy K L W ar TN (tFo K L false (0, t)) (1000 + 6 * (D - 24 * b)) = w := hw0
    have nn : ∀ kk : Int, ∀ t', 0 ≤ t' → (p_t K L 10 false (0, t' + 1)).1 = 0 → nxT K L (t' + 1) ≤ n → 0 ≤ tF K L W ar kd [] (tFo K L false (0, t)) TN kk (t' + 1) := fun kk t' ht hpp hnn => tF_nn hX (by omega) hpp hnn
    -- the FORMALS
    refine ⟨fun c1 c2 u => c1 = a1 ∧ ∃ k : Nat, c2.toInt = (k : Int) ∧ LRq K L B w (fun v => tF K L W ar kd [] (tFo K L false (0, t)) TN 0 (v + 1)) 238 (6 * D) (t + 2) (y_5 K L false (0, t)).2 (tFo K L false (0, t)) s1 k u, ⟨rfl, 0, by decide, LRq_0 p1⟩, ?_⟩
    rintro c1 c2 u ⟨g1, k, g4, g5⟩
    subst g1
    have fu := g5.2.1
    have u8 := LRq_nn hX (by omega) (by omega) (by omega) p1 (nn 0) hf0 g5
    have hs0 : (u.1 8).toInt = 0 → (s.1 8).toInt = 0 := fun hu => by
      by_cases h0 : (s.1 8).toInt = 0
      · exact h0
      · have q1 : u = s1 := g5.2.2.2.2.2.2 (by rw [e8]; exact h0)
        rw [q1, e8] at hu
        exact hu
    have rowsu : ∀ p, ¬ p = 231 → ¬ p = 232 → ¬ p = 264 → ¬ p = 261 → u.2.1 p = s.2.1 p := fun p z1 z2 z3 z4 => by rw [RWf_r fu z1 z2 z3 z4, er]
    have Hu := RVh_W fu g5.2.2.1 H1
    have Ru : RBh K L W ar kd n B b u TN := RBh_W rowsu ((fu.1 75 (by decide) (by decide) (by decide) (by decide) (by decide)).trans (fs1 75 (by decide) (by decide) (by decide))) hR
    unfold ub_209_7
    rw [h1]
    intro _
    rw [rowsu 236 (by decide) (by decide) (by decide) (by decide), b2']
    refine ⟨fun w1 => ?_, fun w1 _ x1 hx1 _ x2 hx2 _ => ?_⟩
    · have hk : k = (tFo K L false (0, t)).length := by
        have := g5.1
        omega
      subst hk
      -- the FIELDS
      have hst2 : ∃ (LM : List Int) (m2 : Int), (s.2.1 239 D.toNat).toInt = (LM.length : Int) ∧ YA K L B s 240 241 (6 * D) x y LM ∧ srtQ K L (y_5 K L false (0, t)).2 m2 (nmS 0 0 LM) ∧ (∀ v ∈ LM, 0 ≤ v) ∧ m2 ≤ (p_ty K L false (0, t)).2 ∧ ((tSt K L false (0, t) = true ∧ LM = tMe K L false (0, t) ∧ m2 = (p_ty K L false (0, t)).2) ∨ (tSt K L false (0, t) = false ∧ LM = [] ∧ m2 = (y_5 K L false (0, t)).2)) := by
        cases hst : tSt K L false (0, t) with
        | true => exact ⟨_, _, (c2' hst).1, (c2' hst).2.2, p2 hst, hm1 hst, Int.le_refl _, Or.inl ⟨rfl, rfl, rfl⟩⟩
        | false => exact ⟨[], (y_5 K L false (0, t)).2, (c3' hst).1, fun i v hv => (by cases hv), Int.le_refl _, fun v hv => absurd hv List.not_mem_nil, l2, Or.inr ⟨rfl, rfl, rfl⟩⟩
      obtain ⟨LM, m2, o1, o2, o3, o4, o5, o6⟩ := hst2
      have l3 := srtQ_le o3
      refine ⟨fun d1 d2 v => d1 = c1 ∧ ∃ k2 : Nat, d2.toInt = (k2 : Int) ∧ LRq K L B w (fun v => tF K L W ar kd [] (tFo K L false (0, t)) TN 2 (v + 1)) 241 (6 * D) (y_5 K L false (0, t)).2 m2 LM u k2 v, ⟨rfl, 0, by decide, LRq_0 o3⟩, ?_⟩
      rintro d1 d2 v ⟨i1, k2, i4, i5⟩
      subst i1
      have fv := i5.2.1
      have v8 := LRq_nn hX (by omega) (by omega) u8 o3 (nn 2) o4 i5
      have rowsv : ∀ p, ¬ p = 231 → ¬ p = 232 → ¬ p = 264 → ¬ p = 261 → v.2.1 p = s.2.1 p := fun p z1 z2 z3 z4 => by rw [RWf_r fv z1 z2 z3 z4, rowsu p z1 z2 z3 z4]
      have Hv := RVh_W fv i5.2.2.1 Hu
      unfold ub_209_27
      rw [h1]
      intro _
      rw [rowsv 239 (by decide) (by decide) (by decide) (by decide), o1]
      refine ⟨fun w2 _ => ?_, fun w2 _ x3 hx3 _ x4 hx4 _ => ?_⟩
      · have hk2 : k2 = LM.length := by
          have := i5.1
          omega
        subst hk2
        rw [rowsv 242 (by decide) (by decide) (by decide) (by decide)]
        -- the METHODS
        have hst3 : ∃ LH : List Int, (s.2.1 243 D.toNat).toInt = (LH.length : Int) ∧ (∀ (i : Nat) (z : Int), LH[i]? = some z → HDr K L B s (h + i) x y z) ∧ srtH K L m2 (p_ty K L false (0, t)).2 LH ∧ (∀ z ∈ LH, 0 ≤ z ∧ (∀ v ∈ h_f K L (0, z + 1), wTk K n v) ∧ (h_f K L (0, z + 1)).length ≤ 6 ∧ ∀ v ∈ h_v K L (0, z + 1), 0 ≤ v) ∧ ((tSt K L false (0, t) = true ∧ LH = []) ∨ (tSt K L false (0, t) = false ∧ LH = tMe K L false (0, t))) := by
          rcases o6 with ⟨hst, e1, e2⟩ | ⟨hst, e1, e2⟩
          · exact ⟨[], (c2' hst).2.1, fun i z hz => (by cases hz), o5, fun z hz => absurd hz List.not_mem_nil, Or.inl ⟨hst, rfl⟩⟩
          · exact ⟨_, (c3' hst).2.1, (c3' hst).2.2, by rw [e2]; exact p3 hst, hm2 hst, Or.inr ⟨hst, rfl⟩⟩
        obtain ⟨LH, r1, r2, r3, r4, r5⟩ := hst3
        have gv8 := v8
        refine ⟨fun e1 e2 z => e1 = d1 ∧ ∃ k3 : Nat, e2.toInt = h + (k3 : Int) ∧ LHq K L W ar kd B b (1000 + 6 * (D - 24 * b)) (tFo K L false (0, t)) TN h m2 (p_ty K L false (0, t)).2 LH v k3 z, ⟨rfl, 0, by rw [b6']; omega, LHq_0 r3 v8⟩, ?_⟩
        rintro e1 e2 z ⟨j1, k3, j4, j5⟩
        subst j1
        have fz := j5.2.1
        have rowsz : ∀ p, ¬ p = 231 → ¬ p = 232 → ¬ p = 264 → ¬ p = 261 → z.2.1 p = s.2.1 p := fun p z1 z2 z3 z4 => by rw [RWf_r fz z1 z2 z3 z4, rowsv p z1 z2 z3 z4]
        unfold ub_209_51
        rw [h1]
        intro _ _
        rw [rowsz 242 (by decide) (by decide) (by decide) (by decide), rowsz 243 (by decide) (by decide) (by decide) (by decide), b6', r1]
        intro _ x1 hx1
        have hz75 : z.1 75 = s.1 75 := ((fz.1 75 (by decide) (by decide) (by decide) (by decide) (by decide)).trans (fv.1 75 (by decide) (by decide) (by decide) (by decide) (by decide))).trans ((fu.1 75 (by decide) (by decide) (by decide) (by decide) (by decide)).trans (fs1 75 (by decide) (by decide) (by decide)))
        refine ⟨fun w3 => ?_, fun w3 => ?_⟩
        · -- the end
          have hk3 : k3 = LH.length := by
            have := j5.1
            omega
          subst hk3
          obtain ⟨j6, -, j7, j8, j9, j10, j11⟩ := j5
          rw [List.take_length] at j9
          have ev : (v.1 8).toInt = ffs ((s.1 8).toInt :: ((tFo K L false (0, t)).map (fun v => tF K L W ar kd [] (tFo K L false (0, t)) TN 0 (v + 1)) ++ LM.map (fun v => tF K L W ar kd [] (tFo K L false (0, t)) TN 2 (v + 1)))) := by
            rw [i5.2.2.2.2.1, List.take_length, g5.2.2.2.2.1, List.take_length, ffs_c, e8, List.cons_append]
          have eF : tyFs K L W ar kd TN t = ((tFo K L false (0, t)).map (fun v => tF K L W ar kd [] (tFo K L false (0, t)) TN 0 (v + 1)) ++ LM.map (fun v => tF K L W ar kd [] (tFo K L false (0, t)) TN 2 (v + 1))) ++ LH.flatMap (fun q => hFs K L W ar kd (h_f K L (0, q + 1)) (tFo K L false (0, t)) TN q) := by
            unfold tyFs
            rcases r5 with ⟨hst, q1⟩ | ⟨hst, q1⟩
            · rw [if_pos hst, q1]
              rcases o6 with ⟨-, q2, -⟩ | ⟨q2, -⟩
              · rw [q2, List.flatMap_nil, List.append_nil]
              · rw [hst] at q2
                cases q2
            · rw [if_neg (by rw [hst]; decide), q1]
              rcases o6 with ⟨q2, -⟩ | ⟨-, q2, -⟩
              · rw [hst] at q2
                cases q2
              · rw [q2, List.map_nil, List.append_nil]
          have ez : (z.1 8).toInt = ffs ((s.1 8).toInt :: tyFs K L W ar kd TN t) := by
            rw [j9, ev, ffs_c, eF, List.cons_append]
          have hsf : ¬ (s.1 8).toInt = 0 → u = s1 ∧ v = u ∧ z.2 = v.2 ∧ z.1 65 = v.1 65 := fun h0 => by
            have q1 : u = s1 := g5.2.2.2.2.2.2 (by rw [e8]; exact h0)
            have q2 : v = u := i5.2.2.2.2.2.2 (by rw [q1, e8]; exact h0)
            have q3 := j11 (by rw [q2, q1, e8]; exact h0)
            exact ⟨q1, q2, q3⟩
          have uv0 : (v.1 8).toInt = 0 → (u.1 8).toInt = 0 := fun h0 => by
            by_cases h9 : (u.1 8).toInt = 0
            · exact h9
            · rw [i5.2.2.2.2.2.2 h9] at h0
              exact h0
          have vz0 : (z.1 8).toInt = 0 → (v.1 8).toInt = 0 := fun h0 => by
            by_cases h9 : (v.1 8).toInt = 0
            · exact h9
            · rw [j9] at h0
              have : ffs ((v.1 8).toInt :: LH.flatMap (fun q => hFs K L W ar kd (h_f K L (0, q + 1)) (tFo K L false (0, t)) TN q)) = (v.1 8).toInt := if_neg h9
              omega
          have frm : RWf B (t + 2) (p_ty K L false (0, t)).2 (s.1 65).toInt s z := by
            have f0 : RWf B (t + 2) (p_ty K L false (0, t)).2 (s.1 65).toInt s s1 := ⟨fun k _ _ z1 z2 z3 => fs1 k z1 z2 z3, by rw [er], fun p _ _ _ _ => by rw [er], fun p i _ _ => by rw [er], fun i _ => by rw [er]⟩
            have e65t : (s1.1 65).toInt = (s.1 65).toInt := by rw [e65]
            have f1 := RWf_tr f0 (RWf_mo (lo := t + 2) (hi := (p_ty K L false (0, t)).2) (a := (s.1 65).toInt) fu (Int.le_refl _) l2 (by omega)) (Int.le_refl _) (Int.le_refl _) (Int.le_refl _)
            have f2 : RWf B (t + 2) (p_ty K L false (0, t)).2 (s.1 65).toInt s v := by
              by_cases h9 : (u.1 8).toInt = 0
              · have := (g5.2.2.2.2.2.1 h9).1
                exact RWf_tr f1 fv (by omega) o5 (by omega)
              · rw [i5.2.2.2.2.2.2 h9]
                exact f1
            by_cases h9 : (v.1 8).toInt = 0
            · have q1 := (g5.2.2.2.2.2.1 (uv0 h9)).1
              have q2 := (i5.2.2.2.2.2.1 h9).1
              exact RWf_tr f2 fz (by omega) (Int.le_refl _) (by omega)
            · have q3 := j11 h9
              have a1' : RWf B (t + 2) (p_ty K L false (0, t)).2 (s.1 65).toInt v z := ⟨fz.1, fz.2.1, fz.2.2.1, fun p i _ _ => by rw [q3.1], fun i _ => by rw [q3.1]⟩
              exact RWf_tr f2 a1' (Int.le_refl _) (Int.le_refl _) (Int.le_refl _)
          refine ⟨rfl, ⟨frm, ez, j8, fun h9 => ?_, fun h0 => ?_⟩, ?_⟩
          · have hv0 := vz0 h9
            have hu0 := uv0 hv0
            obtain ⟨gu1, mu, gu2, gu3, gu4, gu5⟩ := g5.2.2.2.2.2.1 hu0
            obtain ⟨gv1, mv, gv2, gv3, gv4, gv5⟩ := i5.2.2.2.2.2.1 hv0
            obtain ⟨gz1, mz, gz2, gz3, gz4, gz5⟩ := j10 h9
            have mu2 := srtQ_le gu4
            have mv2 := srtQ_le gv4
            have mz2 := srtH_le gz4
            have e65t : (s1.1 65).toInt = (s.1 65).toInt := by rw [e65]
            refine ⟨by omega, by omega, fun i v' hv' => ?_, fun hst i v' hv' => ?_, fun hst i z' hz' => ?_⟩
            · obtain ⟨k1, k2', k3⟩ := gu5 i v' (by have := (List.getElem?_eq_some_iff.mp hv').1; omega) hv'
              have m1 := RSn_f k1 k3 fv (Or.inl (by omega)) (Int.le_refl _)
              have m2' := RSn_f m1 k3 fz (Or.inl (by omega)) gv1
              rw [RWf_r fz (p := 238) (by decide) (by decide) (by decide) (by decide), RWf_r fv (p := 238) (by decide) (by decide) (by decide) (by decide), hwT]
              exact RSn_A m2' (by omega)
            · rcases o6 with ⟨-, q2, -⟩ | ⟨q2, -⟩
              · rw [← q2] at hv'
                obtain ⟨k1, k2', k3⟩ := gv5 i v' (by have := (List.getElem?_eq_some_iff.mp hv').1; omega) hv'
                have m2' := RSn_f k1 k3 fz (Or.inl (by omega)) (Int.le_refl _)
                rw [RWf_r fz (p := 241) (by decide) (by decide) (by decide) (by decide), hwT]
                exact RSn_A m2' (by omega)
              · rw [hst] at q2
                cases q2
            · rcases r5 with ⟨q2, -⟩ | ⟨-, q2⟩
              · rw [hst] at q2
                cases q2
              · rw [← q2] at hz'
                exact (gz5 i z' (by have := (List.getElem?_eq_some_iff.mp hz').1; omega) hz').1
          · obtain ⟨q1, q2, q3, q4⟩ := hsf h0
            refine ⟨fun p _ => ?_, ?_⟩
            · rw [q3, q2, q1, er]
            · rw [q4, q2, q1, e65]
          · rw [j7, i5.2.2.2.1, g5.2.2.2.1, er]
        · have hk3 : k3 < LH.length := by omega
          obtain ⟨q', hq'⟩ : ∃ q', LH[k3]? = some q' := ⟨_, List.getElem?_eq_getElem hk3⟩
          obtain ⟨w1', w2', w3', w4'⟩ := r4 q' (List.mem_of_getElem? hq')
          obtain ⟨y1', y2', y3', y4', -⟩ := srtH_at LH _ _ k3 q' r3 hq'
          have Rz := RBh_W rowsz hz75 hR
          have hj65 : (z.1 8).toInt = 0 → 10 + 4100 * (B / 4002) ≤ (z.1 65).toInt := fun h9 => by
            have hv0 : (v.1 8).toInt = 0 := by
              by_cases h7 : (v.1 8).toInt = 0
              · exact h7
              · have e9 := j5.2.2.2.2.1
                have e7 : ffs ((v.1 8).toInt :: (LH.take k3).flatMap (fun q => hFs K L W ar kd (h_f K L (0, q + 1)) (tFo K L false (0, t)) TN q)) = (v.1 8).toInt := if_neg h7
                omega
            have hu0 : (u.1 8).toInt = 0 := by
              by_cases h7 : (u.1 8).toInt = 0
              · exact h7
              · rw [i5.2.2.2.2.2.2 h7] at hv0
                exact hv0
            have q1 := (g5.2.2.2.2.2.1 hu0).1
            have q2 := (i5.2.2.2.2.2.1 hv0).1
            have q3 := (j5.2.2.2.2.2.1 h9).1
            have q4 := h65 (hs0 hu0)
            rw [e65] at q1
            omega
          have hSq : SPr K ar n (h_f K L (0, q' + 1)) (tFo K L false (0, t)) TN (1000 + 6 * (D - 24 * b)) (2000 + 6 * (h + (k3 : Int) - 204 * b)) := ⟨w2', hS.2.1, hS.2.2.1, ⟨w3', hS.2.2.2.1.2⟩, ⟨hS.2.2.2.2.1.1, by omega⟩, hS.2.2.2.2.2⟩
          have hP : SCp B b z e1.toInt (-1 : Int32).toInt (tFo K L false (0, t)) (1000 + 6 * (D - 24 * b)) := by
            refine SCp_W rowsz (Or.inl ⟨by omega, by decide, by rw [h1]; exact b2', by rw [h1]; exact hNT, by rw [h1]⟩)
          have fin : ∀ s2 : yS, HRq K L B (wHd K L W ar TN (tFo K L false (0, t)) (1000 + 6 * (D - 24 * b)) b (h + (k3 : Int)) q') (hFs K L W ar kd (h_f K L (0, q' + 1)) (tFo K L false (0, t)) TN q') (h + (k3 : Int)) q' z s2 → (-2147483648 ≤ e2.toInt + 1 ∧ e2.toInt + 1 ≤ 2147483647 → ∀ x4 : Int32, x4.toInt = e2.toInt + 1 → (e1 = e1 ∧ ∃ k3 : Nat, x4.toInt = h + (k3 : Int) ∧ LHq K L W ar kd B b (1000 + 6 * (D - 24 * b)) (tFo K L false (0, t)) TN h m2 (p_ty K L false (0, t)).2 LH v k3 s2)) := fun s2 hg _ x4 hx4 => ⟨rfl, k3 + 1, by omega, LHq_s j5 hq' w1' hg⟩
          refine Par.imp (x_208 (s := z) (h := h + (k3 : Int)) (q := q') (kd := kd) (W := W) hX hb hB rfl hSq Rz.2.2.2.2.2 j4 (by omega) (HDr_W rowsz (r2 k3 q' hq')) w1' y2' (by omega) w4' j5.2.2.2.1 hj65 Rz.1 hP rfl Rz.2.1 Rz.2.2.1 Rz.2.2.2.1 Rz.2.2.2.2.1) ?_
          rintro v3 s2 ⟨rfl, hg⟩
          exact ⟨rfl, fin s2 hg⟩
      · have hk2 : k2 < LM.length := by omega
        obtain ⟨t', ht'⟩ : ∃ t', LM[k2]? = some t' := ⟨_, List.getElem?_eq_getElem hk2⟩
        have ht0' := o4 t' (List.mem_of_getElem? ht')
        have ex4 : x4.toInt.toNat = (6 * D + (k2 : Int)).toNat := by omega
        rw [ex4]
        have step : ∀ s5 : yS, ((v.1 8).toInt = 0 → RSq K L B w (t' + 1) (v.2.1 241 (6 * D + (k2 : Int)).toNat).toInt (tF K L W ar kd [] (tFo K L false (0, t)) TN 2 (t' + 1)) v s5) → (¬ (v.1 8).toInt = 0 → s5 = v) → (-2147483648 ≤ d2.toInt + 1 ∧ d2.toInt + 1 ≤ 2147483647 → ∀ x7 : Int32, x7.toInt = d2.toInt + 1 → (d1 = d1 ∧ ∃ k2 : Nat, x7.toInt = (k2 : Int) ∧ LRq K L B w (fun v => tF K L W ar kd [] (tFo K L false (0, t)) TN 2 (v + 1)) 241 (6 * D) (y_5 K L false (0, t)).2 m2 LM u k2 s5)) := fun s5 z1 z2 _ x7 hx7 => ⟨rfl, k2 + 1, by omega, LRq_s (by decide) i5 ht' ht0' z1 z2⟩
        by_cases hz : (v.1 8).toInt = 0
        · obtain ⟨n1, n2, n3⟩ := LRq_n i5 hz ht' ht0'
          obtain ⟨b', hyT⟩ := YA_yT (u := v) o2 ht' rowsv
          have hu0 : (u.1 8).toInt = 0 := by
            by_cases h0 : (u.1 8).toInt = 0
            · exact h0
            · rw [i5.2.2.2.2.2.2 h0] at hz
              exact hz
          have gu1 := (g5.2.2.2.2.2.1 hu0).1
          have gv1 := (i5.2.2.2.2.2.1 hz).1
          have h65' := h65 (hs0 hu0)
          rw [e65] at gu1
          refine Par.imp (x_204s hX hb hB hS (a1 := v.2.1 241 (6 * D + (k2 : Int)).toNat) rfl (by omega) n1 (by omega) (by rw [rowsv 241 (by decide) (by decide) (by decide) (by decide)]; exact hyT) v8 (by omega) Hv) ?_
          rintro v6 s5 ⟨rfl, rq⟩
          rw [hw0] at rq
          exact ⟨rfl, step s5 (fun _ => by rw [tF_k (by decide)]; exact rq) (fun e => absurd hz e)⟩
        · refine Par.imp (x_204f (by omega)) ?_
          rintro v6 s5 ⟨rfl, hs5⟩
          exact ⟨rfl, step s5 (fun e => absurd e hz) (fun _ => hs5)⟩
    · have hk : k < (tFo K L false (0, t)).length := by omega
      obtain ⟨t', ht'⟩ : ∃ t', (tFo K L false (0, t))[k]? = some t' := ⟨_, List.getElem?_eq_getElem hk⟩
      have ht0' := hf0 t' (List.mem_of_getElem? ht')
      have ex2 : x2.toInt.toNat = (6 * D + (k : Int)).toNat := by omega
      rw [ex2]
      have step : ∀ s5 : yS, ((u.1 8).toInt = 0 → RSq K L B w (t' + 1) (u.2.1 238 (6 * D + (k : Int)).toNat).toInt (tF K L W ar kd [] (tFo K L false (0, t)) TN 0 (t' + 1)) u s5) → (¬ (u.1 8).toInt = 0 → s5 = u) → (-2147483648 ≤ c2.toInt + 1 ∧ c2.toInt + 1 ≤ 2147483647 → ∀ x7 : Int32, x7.toInt = c2.toInt + 1 → (c1 = c1 ∧ ∃ k : Nat, x7.toInt = (k : Int) ∧ LRq K L B w (fun v => tF K L W ar kd [] (tFo K L false (0, t)) TN 0 (v + 1)) 238 (6 * D) (t + 2) (y_5 K L false (0, t)).2 (tFo K L false (0, t)) s1 k s5)) := fun s5 z1 z2 _ x7 hx7 => ⟨rfl, k + 1, by omega, LRq_s (by decide) g5 ht' ht0' z1 z2⟩
      by_cases hz : (u.1 8).toInt = 0
      · obtain ⟨n1, n2, n3⟩ := LRq_n g5 hz ht' ht0'
        obtain ⟨b', hyT⟩ := YA_yT (u := u) b4' ht' rowsu
        have gu1 := (g5.2.2.2.2.2.1 hz).1
        have h65' := h65 (hs0 hz)
        rw [e65] at gu1
        refine Par.imp (x_207 hX hb hB hS Ru.2.2.2.2.2 (a1 := u.2.1 238 (6 * D + (k : Int)).toNat) rfl (by omega) n1 (by omega) (by rw [rowsu 238 (by decide) (by decide) (by decide) (by decide)]; exact hyT) u8 (by omega) Hu) ?_
        rintro v6 s5 ⟨rfl, rq⟩
        rw [hw0] at rq
        exact ⟨rfl, step s5 (fun _ => rq) (fun e => absurd hz e)⟩
      · refine Par.imp (x_207f (by omega)) ?_
        rintro v6 s5 ⟨rfl, hs5⟩
        exact ⟨rfl, step s5 (fun e => absurd e hz) (fun _ => hs5)⟩
end WTJ
