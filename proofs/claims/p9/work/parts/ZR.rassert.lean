/-! ===== the reference: typeVar, whole; typeAssert ===== -/
section ZRA
variable {K L W ar kd : Int → Int} {n lo hi B b A0 x y β0 β1 : Int} {TN Ls : List Int} {S : Scp} {s s' u : yS} {d m g i : Nat} {a1 a2 : Int32} {z z' t c l w w0 y0 e e0 a T : Int} {A' : List Int} {R : Int × List Int}
set_option maxHeartbeats 2000000 in
/-- typeVar -/
theorem x_218 (hW : EWd K L W ar kd TN Ls n lo hi B b β0 β1 S) (hI : EIn K L W ar kd TN Ls n B b A0 x y β0 β1 S s) (h8 : (s.1 8).toInt = 0) (hA : (s.1 65).toInt ≤ 100000) (ha1 : a1.toInt = e) (h221 : (s.2.1 221 e.toNat).toInt = 1) (h222 : (s.2.1 222 e.toNat).toInt = B + t) (ht : 0 ≤ t) (hn : t ≤ n) (hK : K t = 1) (hw : 0 ≤ w) (hze : z ≤ e ∧ e < z') (hz0 : 0 ≤ z) : Par d 218 [.ref 213, .int a1] s (EPq K L ar TN Ls B A0 β0 β1 S z z' w (exV L W S t) (fun u => (u.2.1 230 e.toNat).toInt = fIx (wEq W t) 0 S.2.2.2.1) s) := by
  cases d with
  | zero => exact Par_0
  | succ d =>
    have hWs := hW
    obtain ⟨hP, -, hSP, hB, hb⟩ := hWs
    have hLt := hP.1.1.2.2 t ht hn
    obtain ⟨V, hV⟩ : ∃ V, V = S.2.2.2.1 := ⟨_, rfl⟩
    rw [← hV]
    obtain ⟨Φ, hΦ⟩ : ∃ Φ : yS → Prop, Φ = fun u => (u.2.1 230 e.toNat).toInt = fIx (wEq W t) 0 V := ⟨_, rfl⟩
    rw [← hΦ]
    have eV : exV L W S t = if 0 ≤ fIx (wEq W t) 0 V then (0, S.2.2.2.2.getD (fIx (wEq W t) 0 V).toNat []) else (2 + 16 * L t, []) := by
      rw [hV]
      rfl
    have wfault : ∀ v : yS, EF0 (nsD K L Ls) B A0 s v → v.1 = s.1 → ¬ 0 ≤ fIx (wEq W t) 0 V → Par d 163 [.ref 213, .int 2, .int (v.2.1 222 e.toNat)] v (fun v4 s3 => v4 = none ∧ EPq K L ar TN Ls B A0 β0 β1 S z z' w (exV L W S t) Φ s none s3) := by
      intro v v1 v2 hq
      have c222 : (v.2.1 222 e.toNat).toInt = B + t := by rw [EF0_r v1 (q := 222) (by unfold rEx; omega)]; exact h222
      have v8 : (v.1 8).toInt = 0 := by rw [v2]; exact h8
      refine Par.imp (x_163w (L := L) c222 v8 (((RST_e hP v1 hI.1).1.2.2.1 t ht hn).2)) ?_
      rintro v8 s5 ⟨rfl, r1', r2'⟩
      rw [if_pos rfl] at r2'
      rw [eV, if_neg hq]
      exact ⟨rfl, rfl, EF0_tr v1 (EF0_8 r1'), r2', by show 0 ≤ 2 + 16 * L t; omega, fun q => by exfalso; have q : 2 + 16 * L t = 0 := q; omega⟩
    refine pb_218 ?_
    unfold ub_218_0
    rw [ha1]
    intro _ _ _ s1 hs1
    have step : ∀ {v v' : yS} {q : Int32}, EF0 (nsD K L Ls) B A0 s v → EFl s v → v.1 = s.1 → (∀ q j, ¬ (q = 230 ∧ j = e.toNat) → v.2.1 q j = s.2.1 q j) → v' = sa v 230 e.toNat q → EF0 (nsD K L Ls) B A0 s v' ∧ EFl s v' ∧ v'.1 = s.1 ∧ (∀ q j, ¬ (q = 230 ∧ j = e.toNat) → v'.2.1 q j = s.2.1 q j) ∧ v'.2.1 230 e.toNat = q := fun {v v' q} v1 v2 v3 v4 hv => by
      rw [hv]
      refine ⟨EF0_tr v1 (EF0_sa (Or.inr (Or.inl ⟨rfl, by rw [v4 221 _ (fun w => absurd w.1 (by decide))]; exact h221⟩))), EFl_tr v2 (EFl_sa (by omega)), by rw [sa_1r]; exact v3, fun p j hp => ?_, by rw [sa_21, if_pos ⟨rfl, rfl⟩]⟩
      rw [sa_21, if_neg hp]
      exact v4 p j hp
    obtain ⟨E1, F1, g1, r1, c1⟩ := step (v := s) EF0_rf EFl_rf rfl (fun _ _ _ => rfl) hs1
    have hm1 : ((-1 : Int32)).toInt = -1 := by decide
    have hVS := hI.2.2.2
    rcases hVS with ⟨q1, q2⟩ | ⟨i, t0, k1, k2, k3, k4, k5, k6, k7, k8, k9⟩
    · rw [g1]
      have hVn : V = [] := by rw [hV]; exact q2
      refine ⟨fun _ => ?_, fun w => absurd q1 w⟩
      unfold ub_218_31
      refine ⟨fun b1 b2 b3 v => b1 = a1 ∧ v = s1, ⟨rfl, rfl⟩, ?_⟩
      rintro b1 b2 b3 v ⟨rb1, rfl⟩
      subst rb1
      unfold ub_218_33
      rw [g1]
      refine ⟨fun _ => ?_, fun w => absurd q1 w⟩
      unfold ub_218_72
      rw [ha1, c1, hm1]
      intro _
      refine ⟨fun w => absurd w (by decide), fun _ _ => wfault v E1 g1 ?_⟩
      rw [hVn]
      exact (show ¬ (0 : Int) ≤ -1 by decide)
    · obtain ⟨⟨f253, f255, fp6, f257, f261⟩, ⟨f248, fv6⟩, fk⟩ := fs_r hP hI.1 k1 k2
      obtain ⟨vw1, vw2, vd⟩ := va_w hP k1 k2
      obtain ⟨f1, hf1⟩ : ∃ f1, f1 = (f_1 K L false (0, t0)).2 := ⟨_, rfl⟩
      obtain ⟨HV, hHV⟩ : ∃ HV, HV = h_v K L (0, (f_5 K L false (0, t0)).2 + 1) := ⟨_, rfl⟩
      have hVe : V = f1 :: HV := by rw [hV, k6, hf1, hHV]
      rw [← hf1] at f253 vw1 vd
      rw [← hHV] at f248 fv6 fk vw2 vd
      have k3' : ¬ (s.1 78).toInt < 0 := by omega
      have WQ : ∀ v, wTk K n v → wEq W t v = decide ((s.2.1 217 (B + v).toNat).toInt = (s.2.1 217 (B + t).toNat).toInt) := fun v hv => wEq_r hI.1.1.2.1 (t := t) ⟨ht, hn, hK⟩ hv
      have g31 : ∀ u : yS, EF0 (nsD K L Ls) B A0 s u → EFl s u → u.1 = s.1 → (∀ q j, ¬ (q = 230 ∧ j = e.toNat) → u.2.1 q j = s.2.1 q j) → (u.2.1 230 e.toNat).toInt = fIx (wEq W t) 0 (V.take 1) → ub_218_31 (Par d) a1 (s.2.1 217 (B + t).toNat) u (EPq K L ar TN Ls B A0 β0 β1 S z z' w (exV L W S t) Φ s) := by
        intro u u1 u2 u3 u4 u5
        unfold ub_218_31
        refine ⟨fun b1 b2 b3 v => b1 = a1 ∧ b2 = s.2.1 217 (B + t).toNat ∧ EF0 (nsD K L Ls) B A0 s v ∧ EFl s v ∧ v.1 = s.1 ∧ (∀ q j, ¬ (q = 230 ∧ j = e.toNat) → v.2.1 q j = s.2.1 q j) ∧ ∃ k : Nat, k ≤ HV.length ∧ b3.toInt = (k : Int) ∧ (v.2.1 230 e.toNat).toInt = fIx (wEq W t) 0 (V.take (k + 1)), ⟨rfl, rfl, u1, u2, u3, u4, 0, Nat.zero_le _, by decide, u5⟩, ?_⟩
        rintro b1 b2 b3 v ⟨rb1, rb2, v1, v2, v3, v4, k, kl, kb, kf⟩
        subst rb1 rb2
        unfold ub_218_33
        rw [v3, v4 257 _ (fun w => absurd w.1 (by decide)), k3, f257, v4 248 _ (fun w => absurd w.1 (by decide)), f248]
        refine ⟨fun w => absurd w (by omega), fun _ _ _ => ⟨fun w2 => ?_, fun w2 _ _ x1 hx1 _ x2 hx2 => ?_⟩⟩
        · have hkl : k = HV.length := by omega
          have eVt : V.take (k + 1) = V := by
            rw [hkl, hVe]
            exact List.take_length (l := f1 :: HV)
          rw [eVt] at kf
          unfold ub_218_72
          rw [ha1, kf]
          intro _
          refine ⟨fun w3 => ?_, fun w3 _ => wfault v v1 v3 w3⟩
          have hlt := (fIx_lt (p := wEq W t) (l := V)).2
          obtain ⟨j, hj⟩ : ∃ j : Nat, fIx (wEq W t) 0 V = (j : Int) := ⟨_, (Int.toNat_of_nonneg w3).symm⟩
          rw [hj] at kf hlt
          have hVl : V.length = 1 + HV.length := by
            rw [hVe, List.length_cons]
            omega
          refine Par.imp (x_219 (k := j) (e := e) hW (EIn_f hP v1 v2 hI) (by rw [v3]; exact hA) k1 k2 (by rw [v3]; exact k3) k4 k5 k7 k8 k9 ha1 kf (by rw [← hHV]; omega)) ?_
          rintro v2' s1' ⟨rfl, o1, o2, ⟨o3, o4, o5⟩, o6⟩
          rw [eV, if_pos w3, hj, Int.toNat_natCast]
          refine ⟨rfl, rfl, EF0_tr v1 o1, ?_, Int.le_refl _, fun _ => ⟨EFl_tr v2 o2, fun q j hq hj => ?_, ?_, o6, ?_⟩⟩
          · rw [o3, v3]
            exact h8
          · rw [o5 q j (by omega), v4 q j (fun w => by omega)]
          · rw [o4, v3]
            omega
          · rw [hΦ]
            show (s1'.2.1 230 e.toNat).toInt = _
            rw [o5 230 _ (by decide), kf]
            exact hj.symm
        · have hkl : k < HV.length := by omega
          obtain ⟨vk, hvk⟩ : ∃ vk, HV[k]? = some vk := ⟨_, List.getElem?_eq_getElem hkl⟩
          have e2 : x2.toInt = 6 * (204 * b + (kHd K L (Ls.take i) : Int)) + (k : Int) := by omega
          have hVk : V[k + 1]? = some vk := by
            rw [hVe, List.getElem?_cons_succ]
            exact hvk
          have hds : ∀ (i : Nat) (p : Int), i < k + 1 → V[i]? = some p → ¬ W p = W vk := fun i' p hi hp => by
            rw [hVe] at hp
            cases i' with
            | zero =>
              have e3 : f1 = p := by simpa using hp
              rw [← e3]
              exact (vd k vk hvk).1
            | succ i' => exact (vd k vk hvk).2 i' p (by omega) hp
          have st := fIx_tk (q := t) hVk hds
          have hq := WQ vk (vw2 vk (List.mem_of_getElem? hvk))
          rw [e2, v4 249 _ (fun w => absurd w.1 (by decide)), (fk k vk hvk).1, v4 217 _ (fun w => absurd w.1 (by decide))]
          intro _ _
          unfold ub_218_70
          refine ⟨fun w5 _ x1' hx1' => ⟨rfl, rfl, v1, v2, v3, v4, k + 1, by omega, by omega, ?_⟩, fun w5 _ x3 hx3 _ s4 hs4 _ x1' hx1' => ?_⟩
          · rw [st, hq, decide_eq_false w5, if_neg (by decide)]
            exact kf
          · rw [ha1] at hs4
            obtain ⟨n1, n2, n3, n4, n5⟩ := step v1 v2 v3 v4 hs4
            refine ⟨rfl, rfl, n1, n2, n3, n4, k + 1, by omega, by omega, ?_⟩
            rw [st, hq, decide_eq_true w5, if_pos rfl, n5]
            omega
      rw [g1, h222, r1 253 _ (fun w => absurd w.1 (by decide)), k3, f253, r1 217 _ (fun w => absurd w.1 (by decide))]
      have hq1 := WQ f1 vw1
      have eT1 : V.take 1 = [f1] := by
        rw [hVe]
        rfl
      have eF1 : fIx (wEq W t) 0 (V.take 1) = if wEq W t f1 = true then 0 else -1 := by
        rw [eT1]
        rfl
      refine ⟨fun w => absurd w (by omega), fun _ _ _ => ⟨fun w5 => g31 s1 E1 F1 g1 r1 ?_, fun w5 _ s2 hs2 => ?_⟩⟩
      · rw [eF1, hq1, decide_eq_false w5, if_neg (by decide), c1]
        exact hm1
      · obtain ⟨n1, n2, n3, n4, n5⟩ := step E1 F1 g1 r1 hs2
        refine g31 s2 n1 n2 n3 n4 ?_
        rw [eF1, hq1, decide_eq_true w5, if_pos rfl, n5]
        decide
/-- bound of a PARAM in an E -/
theorem ow_194 (hW : EWd K L W ar kd TN Ls n lo hi B b β0 β1 S) (hI : EIn K L W ar kd TN Ls n B b A0 x y β0 β1 S s) (hA : (s.1 65).toInt ≤ 100000) {p : Int} (hTY : TYp ar (TN.length : Int) β0 β1 (S.2.1.length : Int) (S.1.length : Int) s p l (c :: A')) (hc : 24 ≤ c) (h1 : a1.toInt = rhC β0 β1 c) : Par d 194 [.ref 213, .int a1] s (fun v s' => v = none ∧ EF0 (nsD K L Ls) B A0 s s' ∧ EFl s s' ∧ (s'.1 8 = s.1 8 ∧ s'.1 65 = s.1 65 ∧ ∀ q j, (q < 264 ∨ 268 < q) → s'.2.1 q j = s.2.1 q j) ∧ (∀ k, ¬ k = 8 → ¬ k = 64 → ¬ k = 70 → ¬ k = 71 → ¬ k = 72 → ¬ k = 73 → ¬ k = 74 → s'.1 k = s.1 k) ∧ TYp ar (TN.length : Int) β0 β1 (S.2.1.length : Int) (S.1.length : Int) s' (s'.1 71).toInt (s'.1 72).toInt (S.2.2.1 c) ∧ kd ((S.2.2.1 c).headD 0) = 2) := by
  obtain ⟨hP, -, hSP, hB, hb⟩ := hW
  obtain ⟨-, c2, c3, c4⟩ := hTY.2.2.2.2.2.2 c List.mem_cons_self
  have h100 := hI.2.2.1.2.1
  have hA0 := hI.2.2.1.1
  have he : ((s.1 70).toInt.toNat : Int) = (s.1 70).toInt := Int.toNat_of_nonneg hI.2.2.1.2.2
  obtain ⟨o1, o2, o3, o4⟩ := sp_own (PG_of hP hI.1) hSP ⟨hc, c2⟩ (fun q => c3 hc q) c4
  refine Par.imp (x_194 (T := (s.1 64).toInt) (e := (s.1 70).toInt.toNat) (PG_of hP hI.1) hSP ⟨hc, c2⟩ (fun q => c3 hc q) c4 h1 rfl (by omega) he.symm) ?_
  rintro v s' ⟨rfl, w1, ⟨w2, w3, -, -⟩, p, p1, p2, p3, p4, p5⟩
  rw [List.length_map] at p3 p4
  have F1 : EFl s s' := EFl_wf w1 rfl he.symm w3 (by omega) (by omega)
  refine ⟨rfl, EF0_wf w1 (by omega), F1, ⟨w2, w1.1 65 (by decide) (by decide) (by decide) (by decide) (by decide) (by decide) (by decide), w1.2.2.1⟩, w1.1, ?_, o4⟩
  rw [p1, p3]
  exact ⟨Or.inr (by omega), rfl, ⟨by omega, by omega⟩, p5, o1, o2, o3⟩
set_option maxHeartbeats 2000000 in
/-- typeAssert -/
theorem x_228 {Φ0 : yS → Prop} (hst : ∀ u u', CFq z y0 A0 (u.1 65).toInt u u' → (u.1 65).toInt ≤ (u'.1 65).toInt → Φ0 u → Φ0 u') (hz0 : 0 ≤ z) (hW : EWd K L W ar kd TN Ls n lo hi B b β0 β1 S) (hm : m ≤ 10) (hI : EIn K L W ar kd TN Ls n B b A0 x y β0 β1 S s) (h1 : a1.toInt = e) (he0 : 0 ≤ e) (h227 : (s.2.1 227 e.toNat).toInt = e0) (h223 : (s.2.1 223 e.toNat).toInt = B + a) (h229 : (s.2.1 229 e.toNat).toInt = e + 1) (hT : yT K L B s m (e + 1) z' (a + 2)) (hp : (p_t K L m false (0, a + 2)).1 = 0) (hE : ∀ (d : Nat) (q : Int32), q.toInt = e0 → Par d 217 [.ref 213, .int q] s (EPq K L ar TN Ls B A0 β0 β1 S z y0 w0 R Φ0 s)) (hy : y0 ≤ e) (hz : z ≤ e) (hw0 : 0 ≤ w0) (hw : w0 + (nxT K L (a + 2) - (a + 2)) ≤ w) (ha0 : 0 ≤ a) (hn : nxT K L (a + 2) ≤ n) (hD : ∀ v, a + 2 ≤ v → v < nxT K L (a + 2) → nsD K L Ls v) (hA : (s.1 65).toInt + w ≤ 100000) : Par d 228 [.ref 213, .int a1] s (EPq K L ar TN Ls B A0 β0 β1 S z z' w (if R.1 = 0 then exA K L W ar kd TN Ls S a R.2 else R) (fun u => Φ0 u ∧ cTn K L W ar TN β0 β1 S A0 (u.1 65).toInt u (e + 1) (a + 2)) s) := by
  cases d with
  | zero => exact Par_0
  | succ d =>
    obtain ⟨Φ, hΦ⟩ : ∃ Φ : yS → Prop, Φ = (fun u => Φ0 u ∧ cTn K L W ar TN β0 β1 S A0 (u.1 65).toInt u (e + 1) (a + 2)) := ⟨_, rfl⟩
    rw [← hΦ]
    have hWs := hW
    obtain ⟨hP, -, hSP, hB, hb⟩ := hWs
    obtain ⟨ha, h24⟩ := PR_ar hP
    have gtT := nxT_gt (m := m) (by omega) hp
    have hLa := hP.1.1.2.2 a ha0 (by omega)
    have hLa2 := hP.1.1.2.2 (a + 2) (by omega) (by omega)
    have hp10 : (p_t K L 10 false (0, a + 2)).1 = 0 := by
      rw [pt_mono m 10 hm false (0, a + 2) hp]
      exact hp
    have tkz : (s.2.1 222 (e + 1).toNat).toInt = B + (a + 2) := by
      cases m with
      | zero => exact hT.elim
      | succ m => exact hT.2.2.1
    have hzz : e + 1 < z' := by
      cases m with
      | zero => exact hT.elim
      | succ m => exact hT.1.2
    obtain ⟨G, hG⟩ : ∃ G, G = slG K L W ar (mvD K L W ar kd TN Ls) (Bfd K L W ar TN Ls) S.2.2.1 TN S.1 S.2.1 (a + 2) := ⟨_, rfl⟩
    refine pb_228 ?_
    unfold ub_228_0
    rw [h1]
    intro _
    refine Par.imp (hE d _ h227) ?_
    rintro v2 s1 ⟨rfl, p1, p2, p2n, p3⟩
    refine ⟨rfl, fun w1 => ?_, fun w1 => ?_⟩
    · have hR0 : R.1 = 0 := by omega
      rw [if_pos hR0]
      obtain ⟨q1, q2, q3, q4, q5⟩ := p3 hR0
      have hI1 := EIn_f hP p1 q1 hI
      have h81 : (s1.1 8).toInt = 0 := by omega
      obtain ⟨c, A', eA⟩ : ∃ c A', R.2 = c :: A' := by
        cases hR2 : R.2 with
        | nil =>
          rw [hR2] at q4
          exact absurd rfl (isR_ne q4.2.2.2.2.1)
        | cons a l => exact ⟨a, l, rfl⟩
      rw [eA] at q4
      rw [eA]
      have r1 : ∀ q, ¬ rEx q → s1.2.1 q = s.2.1 q := p1.2.2.1
      have c223 : (s1.2.1 223 e.toNat).toInt = B + a := by rw [r1 223 (by unfold rEx; omega)]; exact h223
      have c229 : (s1.2.1 229 e.toNat).toInt = e + 1 := by rw [r1 229 (by unfold rEx; omega)]; exact h229
      have RTk1 := hI1.1.1.2.2.1
      obtain ⟨P80, hP80⟩ : ∃ P80, s1.1 80 = P80 := ⟨_, rfl⟩
      obtain ⟨P81, hP81⟩ : ∃ P81, s1.1 81 = P81 := ⟨_, rfl⟩
      rw [hP80, hP81]
      rw [hP80, hP81] at q4
      refine Par.imp (x_220 hW hI1 q4) ?_
      rintro v4 s3 ⟨hs3, x5, rfl, hx5⟩
      subst hs3
      refine ⟨x5, rfl, fun w3 _ => ?_, fun w3 _ => ?_⟩
      · have hk : ¬ kd c = 1 := by omega
        have eF : exA K L W ar kd TN Ls S a (c :: A') = if (exT K L W ar kd TN Ls S (a + 2)).1 = 0 then (if kd ((exT K L W ar kd TN Ls S (a + 2)).2.headD 0) = 1 ∧ ¬ mvD K L W ar kd TN Ls (exT K L W ar kd TN Ls S (a + 2)).2 (ownT S.2.2.1 (exT K L W ar kd TN Ls S (a + 2)).2) (ownT S.2.2.1 (c :: A')) = 0 then (mvD K L W ar kd TN Ls (exT K L W ar kd TN Ls S (a + 2)).2 (ownT S.2.2.1 (exT K L W ar kd TN Ls S (a + 2)).2) (ownT S.2.2.1 (c :: A')) + 16 * L (a + 2), []) else (0, (exT K L W ar kd TN Ls S (a + 2)).2)) else ((exT K L W ar kd TN Ls S (a + 2)).1, []) := if_neg hk
        obtain ⟨ya, hya⟩ : ∃ ya, s3.2.1 229 e.toNat = ya := ⟨_, rfl⟩
        rw [hya] at c229
        rw [hya]
        refine Par.imp (er_204 (t := a + 2) hW hI1 h81 hm c229 (yT_e p1 _ _ _ _ hT) hp (by omega) hn hD (by omega)) ?_
        rintro v7 s6 ⟨rfl, o1, o2, o3⟩
        have nn1 : 0 ≤ (tlT K L (cdOf W S.1 S.2.1 TN) ar 10 (a + 2)).1 := tlT_nn hP.1.1 10 (a + 2) (Nat.le_refl _) (by omega) hp10 hn
        have E6 : EF0 (nsD K L Ls) B A0 s s6 := EF0_tr p1 o1
        refine ⟨rfl, fun w4 => ?_, fun w4 => ?_⟩
        · rw [o2] at w4
          have hx : exT K L W ar kd TN Ls S (a + 2) = ((tlT K L (cdOf W S.1 S.2.1 TN) ar 10 (a + 2)).1, []) := by
            unfold exT
            rw [if_neg w4]
          rw [eF, hx, if_neg w4]
          unfold ub_228_43
          exact ⟨fun w5 => by omega, fun _ => ⟨rfl, E6, o2, nn1, fun q => absurd q w4⟩⟩
        · rw [o2] at w4
          have hx : exT K L W ar kd TN Ls S (a + 2) = (ffs G, wdC K L W ar TN S.1 S.2.1 (a + 2)) := by
            unfold exT
            rw [if_pos w4, hG]
          obtain ⟨f1, f2, ⟨f3, f3'⟩, f4, f5⟩ := o3 w4
          have hI6 := EIn_f hP o1 f1 hI1
          have A6 : (s6.1 65).toInt ≤ 100000 := by omega
          have nnG : 0 ≤ ffs G := by rw [hG]; exact slG_nn (S := S) hP (by omega) hn w4 hp10
          refine Par.imp (eb_211 (t := a + 2) hW hI6 (by rw [o2]; exact w4) c229 A6 f4 w4 hp10 (by omega) hn) ?_
          rintro v9 s8 ⟨rfl, g1, g2, g3, g4, g5, g6⟩
          rw [← hG] at g2
          have E8 : EF0 (nsD K L Ls) B A0 s s8 := EF0_tr E6 g1
          have F8 : EFl s s8 := EFl_tr q1 (EFl_tr f1 g3)
          have eF2 : exA K L W ar kd TN Ls S a (c :: A') = if ffs G = 0 then (if kd ((wdC K L W ar TN S.1 S.2.1 (a + 2)).headD 0) = 1 ∧ ¬ mvD K L W ar kd TN Ls (wdC K L W ar TN S.1 S.2.1 (a + 2)) (ownT S.2.2.1 (wdC K L W ar TN S.1 S.2.1 (a + 2))) (ownT S.2.2.1 (c :: A')) = 0 then (mvD K L W ar kd TN Ls (wdC K L W ar TN S.1 S.2.1 (a + 2)) (ownT S.2.2.1 (wdC K L W ar TN S.1 S.2.1 (a + 2))) (ownT S.2.2.1 (c :: A')) + 16 * L (a + 2), []) else (0, wdC K L W ar TN S.1 S.2.1 (a + 2))) else (ffs G, []) := by
            rw [hx] at eF
            exact eF
          refine ⟨rfl, ?_⟩
          rw [eF2]
          unfold ub_228_43
          rw [c229]
          refine ⟨fun w5 _ => ?_, fun w5 => ?_⟩
          · have g0 : ffs G = 0 := by omega
            rw [if_pos g0]
            have hI8 := EIn_f hP E8 F8 hI
            obtain ⟨-, tyw⟩ := ty_of hW hI6 A6 f4 w4 hp10
            have tyw : TYp ar (TN.length : Int) β0 β1 (S.2.1.length : Int) (S.1.length : Int) s8 (s8.2.1 231 (e + 1).toNat).toInt (s8.2.1 232 (e + 1).toNat).toInt (wdC K L W ar TN S.1 S.2.1 (a + 2)) := by
              rw [g4 231 _ (by omega), g4 232 _ (by omega)]
              exact TYp_f g3 tyw
            obtain ⟨c', B', eB⟩ : ∃ c' B', wdC K L W ar TN S.1 S.2.1 (a + 2) = c' :: B' := by
              cases hq : wdC K L W ar TN S.1 S.2.1 (a + 2) with
              | nil =>
                rw [hq] at tyw
                exact absurd rfl (isR_ne tyw.2.2.2.2.1)
              | cons a l => exact ⟨a, l, rfl⟩
            rw [eB] at tyw
            rw [eB]
            have q48 := TYp_f (EFl_tr f1 g3) q4
            have tk8 : ∀ v, EF0 (nsD K L Ls) B A0 s v → (v.2.1 222 (e + 1).toNat).toInt = B + (a + 2) := fun v hv => by
              rw [EF0_r hv (q := 222) (by unfold rEx; omega)]
              exact tkz
            obtain ⟨MV, hMV⟩ : ∃ MV, MV = mvD K L W ar kd TN Ls (c' :: B') (ownT S.2.2.1 (c' :: B')) (ownT S.2.2.1 (c :: A')) := ⟨_, rfl⟩
            have hmb : MV = 0 ∨ MV = 7 ∨ MV = 9 := by rw [hMV]; exact mtV_b
            show Par d 220 _ s8 _
            -- the end: is
            have f101 : ∀ (RR : Int × List Int) (b1 b2 b3 : Int32) (v : yS), EF0 (nsD K L Ls) B A0 s v → (v.1 8).toInt = RR.1 → 0 ≤ RR.1 → (RR.1 = 0 → EFl s8 v ∧ (∀ q j, (q < 264 ∨ 268 < q) → v.2.1 q j = s8.2.1 q j) ∧ v.1 65 = s8.1 65 ∧ RR.2 = c' :: B') → ub_228_101 (Par d) b1 b2 b3 ya v (EPq K L ar TN Ls B A0 β0 β1 S z z' w RR Φ s) := by
              intro RR b1 b2 b3 v v1 v2 v2n v3
              unfold ub_228_101
              rw [c229]
              intro _ _
              refine Par.imp x_216 ?_
              rintro v5 s9 ⟨rfl, hs9⟩
              refine ⟨rfl, rfl, ?_, ?_, v2n, fun q => ?_⟩
              · rw [hs9]
                exact EF0_tr v1 (EF0_tr (EF0_sf (by unfold fEx; omega)) (EF0_sf (by unfold fEx; omega)))
              · rw [hs9, sfr_1, if_neg (by decide), sfr_1, if_neg (by decide)]
                exact v2
              · obtain ⟨k1, k2, k3, k4⟩ := v3 q
                have FX : EFl s8 s9 := by
                  rw [hs9]
                  exact EFl_tr k1 (EFl_tr (EFl_sf (by omega)) (EFl_sf (by omega)))
                refine ⟨EFl_tr F8 FX, fun q j hq hj => ?_, ?_, ?_, ?_⟩
                · rw [hs9, sfr_2, sfr_2, k2 q j (by omega), g4 q j (by omega), f2 q j hq (by omega), q2 q j hq (by omega)]
                · rw [hs9, sfr_1, if_neg (by decide), sfr_1, if_neg (by decide), k3, g6]
                  omega
                · have e80 : s9.1 80 = s8.2.1 231 (e + 1).toNat := by
                    rw [hs9, sfr_1, if_neg (by decide), sfr_1, if_pos rfl]
                    exact k2 231 _ (by omega)
                  have e81 : s9.1 81 = s8.2.1 232 (e + 1).toNat := by
                    rw [hs9, sfr_1, if_pos rfl]
                    exact k2 232 _ (by omega)
                  rw [e80, e81, k4]
                  exact TYp_f FX tyw
                · have C89 : ∀ {x' y' A1 : Int}, CFq x' y' A1 (s6.1 65).toInt s8 s9 := fun {x' y' A1} => ⟨fun q j r1 r2 _ _ => by rw [hs9, sfr_2, sfr_2, k2 q _ (by omega)], fun j _ j2 => FX.2.2.1 j (Or.inl (by rw [g6]; exact j2))⟩
                  have C68 : ∀ {x' y' A1 : Int}, CFq x' y' A1 (s6.1 65).toInt s6 s8 := fun {x' y' A1} => ⟨fun q j r1 r2 _ _ => g4 q _ (by omega), fun j _ j2 => g3.2.2.1 j (Or.inl j2)⟩
                  have e65 : s9.1 65 = s6.1 65 := by rw [hs9, sfr_1, if_neg (by decide), sfr_1, if_neg (by decide), k3, g6]
                  have hA1 := hI1.2.2.1.1
                  rw [hΦ]
                  refine ⟨hst s3 s9 (CFq_tr (CFq_of o1 f1 f2 (Or.inl (by omega)) hz0 (Int.le_refl _)) (CFq_A (CFq_tr C68 C89) f1.2.1.1)) (by rw [e65]; exact f1.2.1.1) q5, ?_⟩
                  show cTn K L W ar TN β0 β1 S A0 (s9.1 65).toInt s9 (e + 1) (a + 2)
                  rw [e65]
                  exact cTn_c (x := e + 1) (y := e + 2) (CFq_tr C68 C89) (Int.le_refl _) (Int.le_refl _) (by omega) ⟨by rw [← wdT_wdC]; exact RSn_e f4, by omega⟩
            have h88 : (s8.1 8).toInt = 0 := by rw [g2]; exact g0
            refine Par.imp (x_220 hW hI8 tyw) ?_
            rintro v10 s9 ⟨hs9, x3, rfl, hx3⟩
            subst hs9
            refine ⟨x3, rfl, fun w6 => ?_, fun w6 _ => ?_⟩
            · have hk' : ¬ kd c' = 1 := by omega
              have hk2 : ¬ (kd ((c' :: B').headD 0) = 1 ∧ ¬ mvD K L W ar kd TN Ls (c' :: B') (ownT S.2.2.1 (c' :: B')) (ownT S.2.2.1 (c :: A')) = 0) := fun q => hk' q.1
              rw [if_neg hk2]
              exact f101 (0, c' :: B') _ _ _ s9 E8 h88 (Int.le_refl _) (fun _ => ⟨EFl_rf, fun _ _ _ => rfl, rfl, rfl⟩)
            · have hk' : kd c' = 1 := by omega
              obtain ⟨Rf, hRf⟩ : ∃ Rf : Int × List Int, Rf = if ¬ MV = 0 then (MV + 16 * L (a + 2), []) else (0, c' :: B') := ⟨_, rfl⟩
              have eRf : (if kd ((c' :: B').headD 0) = 1 ∧ ¬ mvD K L W ar kd TN Ls (c' :: B') (ownT S.2.2.1 (c' :: B')) (ownT S.2.2.1 (c :: A')) = 0 then (mvD K L W ar kd TN Ls (c' :: B') (ownT S.2.2.1 (c' :: B')) (ownT S.2.2.1 (c :: A')) + 16 * L (a + 2), []) else (0, c' :: B')) = Rf := by
                rw [hRf, ← hMV]
                by_cases q : ¬ MV = 0
                · rw [if_pos ⟨hk', q⟩, if_pos q]
                · rw [if_neg (fun w => q w.2), if_neg q]
              show Par d 185 _ _ _
              have f74 : ∀ (b2 b3 : Int32) (v : yS), EF0 (nsD K L Ls) B A0 s v → EFl s9 v → (∀ q j, (q < 264 ∨ 268 < q) → v.2.1 q j = s9.2.1 q j) → v.1 8 = s9.1 8 → v.1 65 = s9.1 65 → TYp ar (TN.length : Int) β0 β1 (S.2.1.length : Int) (S.1.length : Int) v b2.toInt b3.toInt (ownT S.2.2.1 (c :: A')) → ub_228_74 (Par d) a1 b2 b3 ya v (EPq K L ar TN Ls B A0 β0 β1 S z z' w Rf Φ s) := by
                intro b2 b3 v v1 v2 v3 v4 v5 v6
                have hIv := EIn_f hP v1 (EFl_tr F8 v2) hI
                have hv100 := hIv.2.2.1.2.1
                have hvA0 := hIv.2.2.1.1
                have hv65 : (v.1 65).toInt ≤ 100000 := by rw [v5, g6]; exact A6
                have hev : ((v.1 70).toInt.toNat : Int) = (v.1 70).toInt := Int.toNat_of_nonneg hIv.2.2.1.2.2
                have tyv := TYp_f v2 tyw
                rw [← v3 231 _ (by omega), ← v3 232 _ (by omega)] at tyv
                obtain ⟨co, O', eO⟩ : ∃ co O', ownT S.2.2.1 (c :: A') = co :: O' := by
                  cases hq : ownT S.2.2.1 (c :: A') with
                  | nil =>
                    rw [hq] at v6
                    exact absurd rfl (isR_ne v6.2.2.2.2.1)
                  | cons a l => exact ⟨a, l, rfl⟩
                rw [eO] at v6 hMV
                unfold ub_228_74
                rw [c229]
                intro _ _
                refine Par.imp (x_195 (T := (v.1 64).toInt) (e := (v.1 70).toInt.toNat) (PG_of hP hIv.1) hSP rfl (by omega) hev.symm tyv.2.2 tyv.2.1 v6.2.2 v6.2.1) ?_
                rintro v7 s10 ⟨k1, ⟨k2, k3, k4⟩, x6, rfl, hx6⟩
                have hx6' : x6.toInt = cvA MV := by rw [hMV]; exact hx6
                obtain ⟨cv1, cv0⟩ := cvA_0 hmb
                have E10 : EF0 (nsD K L Ls) B A0 s s10 := EF0_tr v1 (EF0_wf k1 (by omega))
                have F10 : EFl s9 s10 := EFl_tr v2 (EFl_wf k1 rfl hev.symm k4 (by rw [k3]; exact Int.le_refl _) (by rw [v5, g6]; omega))
                have h810 : (s10.1 8).toInt = 0 := by rw [k2, v4]; exact h88
                have f96 : ∀ (q : Int32) (b5 : Int32), q.toInt = MV → ¬ MV = 0 → ub_228_96 (Par d) a1 b2 b3 ya b5 q s10 (EPq K L ar TN Ls B A0 β0 β1 S z z' w Rf Φ s) := by
                  intro q b5 hq hne
                  unfold ub_228_96
                  rw [c229]
                  intro _
                  refine Par.imp (x_163w (L := L) (tk8 s10 E10) h810 (((RST_e hP E10 hI.1).1.2.2.1 (a + 2) (by omega) (by omega)).2)) ?_
                  rintro v8 s11 ⟨rfl, r1', r2'⟩
                  rw [if_pos rfl, hq] at r2'
                  rw [hRf, if_pos hne]
                  refine ⟨rfl, f101 (MV + 16 * L (a + 2), []) _ _ _ s11 (EF0_tr E10 (EF0_8 r1')) r2' (by show 0 ≤ MV + 16 * L (a + 2); omega) (fun q => ?_)⟩
                  exfalso
                  have q : MV + 16 * L (a + 2) = 0 := q
                  omega
                refine ⟨x6, rfl, fun w8 => ?_, fun w8 => ⟨fun w9 => f96 9 x6 ?_ ?_, fun w9 => f96 7 x6 ?_ ?_⟩⟩
                · have hM0 : MV = 0 := cv1.mp (by rw [← hx6']; exact w8)
                  rw [hRf, if_neg (fun q => q hM0)]
                  exact f101 (0, c' :: B') _ _ _ s10 E10 h810 (Int.le_refl _) (fun _ => ⟨F10, fun q j hq => by rw [k1.2.2.1 q j hq, v3 q j hq], by rw [k1.1 65 (by decide) (by decide) (by decide) (by decide) (by decide) (by decide) (by decide), v5], rfl⟩)
                · have n0 : ¬ MV = 0 := fun q => w8 (by rw [hx6']; exact cv1.mpr q)
                  have n7 : ¬ MV = 7 := fun q => w9 (by rw [hx6']; exact cv0.mpr q)
                  have n9 : MV = 9 := by omega
                  rw [n9]
                  decide
                · exact fun q => w8 (by rw [hx6']; exact cv1.mpr q)
                · rw [cv0.mp (by rw [← hx6']; exact w9)]
                  decide
                · exact fun q => w8 (by rw [hx6']; exact cv1.mpr q)
              obtain ⟨tc1, -, -, tc4, tc5, -⟩ := TYp_c hSP.1 ha q48
              rw [eRf]
              refine Par.imp x_185 ?_
              rintro v11 s10 ⟨hs10, x6, rfl, hx6⟩
              subst hs10
              rw [tc1] at hx6
              refine ⟨x6, rfl, fun w7 => ?_, fun w7 _ => ?_⟩
              · have hc : c < 24 := by
                  rcases Int.lt_or_le c 24 with q | q
                  · exact q
                  · have := tc5 q
                    omega
                have eO : ownT S.2.2.1 (c :: A') = c :: A' := if_pos hc
                refine f74 _ _ s10 E8 EFl_rf (fun _ _ _ => rfl) rfl rfl ?_
                rw [eO]
                exact q48
              · have hc : 24 ≤ c := by
                  rcases Int.lt_or_le c 24 with q | q
                  · have := (tc4 q).2
                    omega
                  · exact q
                refine Par.imp x_185 ?_
                rintro v12 s11 ⟨hs11, x9, rfl, hx9⟩
                subst hs11
                rw [tc1] at hx9
                refine ⟨x9, rfl, Par.imp (ow_194 hW hI8 (by rw [g6]; exact A6) q48 hc hx9) ?_⟩
                rintro v13 s12 ⟨rfl, k1, k2, ⟨k3, k4, k5⟩, -, k6, -⟩
                have eO : ownT S.2.2.1 (c :: A') = S.2.2.1 c := if_neg (show ¬ c < 24 by omega)
                refine ⟨rfl, f74 _ _ s12 (EF0_tr E8 k1) k2 k5 k3 k4 ?_⟩
                rw [eO]
                exact k6
          · rw [if_neg (show ¬ ffs G = 0 by omega)]
            exact ⟨rfl, E8, g2, nnG, fun q => by exfalso; have q : ffs G = 0 := q; omega⟩
      · have hk : kd c = 1 := by omega
        refine Par.imp (x_163w (L := L) c223 h81 ((RTk1 a ha0 (by omega)).2)) ?_
        rintro v8 s5 ⟨rfl, r1', r2'⟩
        rw [if_pos rfl] at r2'
        have eF : exA K L W ar kd TN Ls S a (c :: A') = (6 + 16 * L a, []) := if_pos hk
        rw [eF]
        exact ⟨rfl, rfl, EF0_tr p1 (EF0_8 r1'), r2', by show 0 ≤ 6 + 16 * L a; omega, fun q => by exfalso; have q : 6 + 16 * L a = 0 := q; omega⟩
    · have hR0 : ¬ R.1 = 0 := by omega
      rw [if_neg hR0]
      exact ⟨rfl, p1, p2, p2n, fun q => absurd q hR0⟩
end ZRA
