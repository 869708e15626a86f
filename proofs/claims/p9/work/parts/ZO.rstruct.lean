/-! ===== the reference: typeStruct ===== -/
/-- typeE at m levels -/
def E217 (K L W ar kd : Int → Int) (TN Ls : List Int) (n B b A0 x y β0 β1 : Int) (S : Scp) (m : Nat) : Prop := ∀ (d : Nat) (a1 : Int32) (z z' t : Int) (s : yS), EIn K L W ar kd TN Ls n B b A0 x y β0 β1 S s → (s.1 8).toInt = 0 → eT K L B s m z z' t a1.toInt → (p_e K L m false (0, t)).1 = 0 → 0 ≤ t → nxE K L t ≤ n → (∀ v, t ≤ v → v < nxE K L t → nsD K L Ls v) → (s.1 65).toInt + (nxE K L t - t) ≤ 100000 → Par d 217 [.ref 213, .int a1] s (EPq K L ar TN Ls B A0 β0 β1 S z z' (nxE K L t - t) (exE6 K L W ar kd TN Ls S m t) (fun u => eC K L W ar kd TN Ls B β0 β1 S A0 (u.1 65).toInt u m z z' t a1.toInt) s)
section ZOS
variable {K L W ar kd : Int → Int} {n lo hi B b A0 x y β0 β1 : Int} {TN Ls : List Int} {S : Scp} {s s' u : yS} {d m g e : Nat} {a1 a2 a3 a4 : Int32} {z z' t c l nT nX nY T w : Int} {X Y : List (List Int)} {Z A' : List Int} {η : Nat → List Int} {ev : Int → Int × List Int}
/-- the trees of a list of E -/
theorem eAr_ch {f : Int → Int → Int → Int → Prop} {o c x y1 y a bb : Int} (h : eAr K L s f o c x y1 y a) (hA : AOk K L m o c a bb) : (s.2.1 226 x.toNat).toInt = (p_vn K L (p_e K L 11) o c (0, a) : Int) ∧ ∃ z w : Nat → Int, z 0 = y1 ∧ z (p_vn K L (p_e K L 11) o c (0, a)) = y ∧ (s.2.1 224 x.toNat).toInt = (if 0 < p_vn K L (p_e K L 11) o c (0, a) then w 0 else -1) ∧ (∀ i, i < p_vn K L (p_e K L 11) o c (0, a) → f (z i) (z (i + 1)) (uS (nxE K L) (a + 1) i) (w i) ∧ (0 ≤ z i ∧ z i ≤ w i ∧ w i < z (i + 1)) ∧ (s.2.1 225 (w i).toNat).toInt = (if i + 1 < p_vn K L (p_e K L 11) o c (0, a) then w (i + 1) else -1)) ∧ ∀ i j, i ≤ j → j ≤ p_vn K L (p_e K L 11) o c (0, a) → z i ≤ z j := by
  unfold eAr at h
  by_cases hc : K (a + 1) = c
  · rw [if_pos hc] at h
    obtain ⟨n0, -⟩ := hA.2.2.2.1 hc
    rw [n0]
    exact ⟨h.2.1, fun _ => y1, fun _ => 0, rfl, h.2.2.symm, h.1, fun i hi => absurd hi (Nat.not_lt_zero _), fun _ _ _ _ => Int.le_refl _⟩
  · rw [if_neg hc] at h
    obtain ⟨n1, -⟩ := hA.2.2.2.2 hc
    obtain ⟨h1, z, v, w, h2, h3, h4, h5, h6⟩ := h
    have mo := eCh_mono h6
    obtain ⟨g1, g2, g3⟩ := h6
    have ev : ∀ i, i ≤ p_vn K L (p_e K L 11) o c (0, a) → v i = uS (nxE K L) (a + 1) i := by
      intro i
      induction i with
      | zero => exact fun _ => h4
      | succ i ih =>
        intro hi
        rw [(g1 i (by omega)).2.1, ih (by omega)]
        rfl
    refine ⟨h1, z, w, h2, h3, by rw [if_pos (by omega)]; exact h5, fun i hi => ?_, mo⟩
    obtain ⟨q1, -, q3⟩ := g1 i hi
    rw [ev i (by omega)] at q1
    refine ⟨q1, q3, ?_⟩
    by_cases hl : i + 1 < p_vn K L (p_e K L 11) o c (0, a)
    · rw [if_pos hl]
      exact g2 i hl
    · rw [if_neg hl]
      have := g3 (by omega)
      rw [show p_vn K L (p_e K L 11) o c (0, a) - 1 = i by omega] at this
      exact this
/-- and back -/
theorem eAr_mk {f : Int → Int → Int → Int → Prop} {o c x y1 y a bb : Int} {z w : Nat → Int} (hA : AOk K L m o c a bb) (h1 : (s.2.1 226 x.toNat).toInt = (p_vn K L (p_e K L 11) o c (0, a) : Int)) (h2 : z 0 = y1) (h3 : z (p_vn K L (p_e K L 11) o c (0, a)) = y) (h4 : (s.2.1 224 x.toNat).toInt = (if 0 < p_vn K L (p_e K L 11) o c (0, a) then w 0 else -1)) (h5 : ∀ i, i < p_vn K L (p_e K L 11) o c (0, a) → f (z i) (z (i + 1)) (uS (nxE K L) (a + 1) i) (w i) ∧ (0 ≤ z i ∧ z i ≤ w i ∧ w i < z (i + 1)) ∧ (s.2.1 225 (w i).toNat).toInt = (if i + 1 < p_vn K L (p_e K L 11) o c (0, a) then w (i + 1) else -1)) : eAr K L s f o c x y1 y a := by
  unfold eAr
  by_cases hc : K (a + 1) = c
  · obtain ⟨n0, -⟩ := hA.2.2.2.1 hc
    rw [if_pos hc]
    rw [n0] at h1 h3 h4
    exact ⟨h4, h1, by rw [← h3, h2]⟩
  · obtain ⟨n1, -⟩ := hA.2.2.2.2 hc
    rw [if_neg hc]
    have hp : 0 < p_vn K L (p_e K L 11) o c (0, a) := by omega
    rw [if_pos hp] at h4
    refine ⟨h1, z, fun i => uS (nxE K L) (a + 1) i, w, h2, h3, rfl, h4, fun i hi => ⟨(h5 i hi).1, rfl, (h5 i hi).2.1⟩, fun i hi => ?_, fun _ => ?_⟩
    · have := (h5 i (by omega)).2.2
      rw [if_pos hi] at this
      exact this
    · have := (h5 (p_vn K L (p_e K L 11) o c (0, a) - 1) (by omega)).2.2
      rw [if_neg (by omega)] at this
      exact this
theorem ffs_tk {l : List Int} {k : Nat} {v : Int} (h : l[k]? = some v) : ffs (l.take (k + 1)) = if ffs (l.take k) = 0 then v else ffs (l.take k) := by
  rw [List.take_succ, h, ← ffs_s]
  rfl
theorem slG_nn (hP : PRm K L W ar kd n lo hi TN Ls) (ht : 0 ≤ t) (hn : nxT K L t ≤ n) (h0 : (tlT K L (cdOf W S.1 S.2.1 TN) ar 10 t).1 = 0) (hp : (p_t K L 10 false (0, t)).1 = 0) : 0 ≤ ffs (slG K L W ar (mvD K L W ar kd TN Ls) (Bfd K L W ar TN Ls) S.2.2.1 TN S.1 S.2.1 t) := by
  unfold slG
  exact ffs_nn _ (bdD_nn (fun c X j => bdGs_nn (tokF_nn hP.1.1 ⟨ht, hn⟩ hp h0) rfl c X j) _)
theorem zip_at {α β : Type} {l : List α} {l' : List β} {k : Nat} {p : α} {q : β} (h : l[k]? = some p) (h' : l'[k]? = some q) : (l.zip l')[k]? = some (p, q) := by
  rw [List.getElem?_zip_eq_some]
  exact ⟨h, h'⟩
theorem exU_at {a : Int} {N k : Nat} (h : k < N) : (exU K L a N)[k]? = some (uS (nxE K L) (a + 1) k) := by
  unfold exU
  rw [List.getElem?_map, List.getElem?_range h]
  rfl
theorem exU_len {a : Int} {N : Nat} : (exU K L a N).length = N := by
  unfold exU
  rw [List.length_map, List.length_range]
set_option maxHeartbeats 4000000 in
/-- typeStruct -/
theorem x_221 (hW : EWd K L W ar kd TN Ls n lo hi B b β0 β1 S) (hm : m ≤ 10) (ih : E217 K L W ar kd TN Ls n B b A0 x y β0 β1 S m) (hI : EIn K L W ar kd TN Ls n B b A0 x y β0 β1 S s) (h8 : (s.1 8).toInt = 0) (h1 : a1.toInt = z) (hz : 0 ≤ z) {y1 : Int} (hcK : K (t + 1) = 123 ∨ K (t + 1) = 91) (h227 : (s.2.1 227 z.toNat).toInt = -1) (h221 : (s.2.1 221 z.toNat).toInt = 2) (h229 : (s.2.1 229 z.toNat).toInt = z + 1) (hy1 : y1 ≤ z') (hT : yT K L B s m (z + 1) y1 t) (hE : eAr K L s (eT K L B s m) 123 125 z y1 z' (nxT K L t)) (hp : (p_t K L m false (0, t)).1 = 0) (hO : AOk K L m 123 125 (nxT K L t) (aHd K L t)) (ht : 0 ≤ t) (hn : aHd K L t ≤ n) (hD : ∀ v, t ≤ v → v < aHd K L t → nsD K L Ls v) (hA : (s.1 65).toInt + (aHd K L t - t) ≤ 100000) : Par d 221 [.ref 213, .int a1] s (EPq K L ar TN Ls B A0 β0 β1 S z z' (aHd K L t - t) (exL K L W ar kd TN Ls S (exE6 K L W ar kd TN Ls S m) t) (fun u => eHd K L B u m (eC K L W ar kd TN Ls B β0 β1 S A0 (u.1 65).toInt u m) z z' t ∧ cHd K L W ar TN β0 β1 S A0 (u.1 65).toInt u z t) s) := by
  cases d with
  | zero => exact Par_0
  | succ d =>
    have hWs := hW
    obtain ⟨hP, hS, hSP, hB, hb⟩ := hWs
    obtain ⟨ha, h24⟩ := PR_ar hP
    have hc24 := hP.2.2.1.1
    have hnT := PR_nT hP
    have h100 := hI.2.2.1.2.1
    have hA0 := hI.2.2.1.1
    have gtT := nxT_gt (m := m) (by omega) hp
    obtain ⟨oa, oE⟩ := AOk_o hm hO
    obtain ⟨c226, zz, ww, z0, zN, c224, cE, cmo⟩ := eAr_ch hE hO
    obtain ⟨N, hN⟩ : ∃ N, N = p_vn K L (p_e K L 11) 123 125 (0, nxT K L t) := ⟨_, rfl⟩
    rw [← hN] at oE c226 zN c224 cE cmo
    have eNV : NV K L (nxT K L t) = N := by
      unfold NV
      exact hN.symm
    have hp10 : (p_t K L 10 false (0, t)).1 = 0 := by
      rw [pt_mono m 10 hm false (0, t) hp]
      exact hp
    have hzy : z + 1 < y1 := by
      cases m with
      | zero => exact hT.elim
      | succ m => exact hT.1.2
    have tkz : (s.2.1 222 (z + 1).toNat).toInt = B + t := by
      cases m with
      | zero => exact hT.elim
      | succ m => exact hT.2.2.1
    obtain ⟨G, hG⟩ : ∃ G, G = slG K L W ar (mvD K L W ar kd TN Ls) (Bfd K L W ar TN Ls) S.2.2.1 TN S.1 S.2.1 t := ⟨_, rfl⟩
    obtain ⟨Φ, hΦ⟩ : ∃ Φ : yS → Prop, Φ = (fun u => eHd K L B u m (eC K L W ar kd TN Ls B β0 β1 S A0 (u.1 65).toInt u m) z z' t ∧ cHd K L W ar TN β0 β1 S A0 (u.1 65).toInt u z t) := ⟨_, rfl⟩
    rw [← hΦ]
    obtain ⟨Q, hQ⟩ : ∃ Q, Q = exE6 K L W ar kd TN Ls S m := ⟨_, rfl⟩
    rw [← hQ]
    refine pb_221 ?_
    unfold ub_221_0
    rw [h1]
    intro _
    obtain ⟨ya, hya⟩ : ∃ ya, s.2.1 229 z.toNat = ya := ⟨_, rfl⟩
    rw [hya] at h229
    rw [hya]
    refine Par.imp (er_204 (t := t) hW hI h8 hm h229 hT hp ht (by omega) (fun v v1 v2 => hD v v1 (by omega)) (by omega)) ?_
    rintro v2 s1 ⟨rfl, p1, p2, p3⟩
    have nn1 : 0 ≤ (tlT K L (cdOf W S.1 S.2.1 TN) ar 10 t).1 := tlT_nn hP.1.1 10 t (Nat.le_refl _) ht hp10 (by omega)
    refine ⟨rfl, fun w1 => ?_, fun w1 => ?_⟩
    · rw [p2] at w1
      unfold ub_221_15
      refine ⟨fun w2 => absurd w2 (by omega), fun _ => ?_⟩
      have eL : exL K L W ar kd TN Ls S Q t = ((tlT K L (cdOf W S.1 S.2.1 TN) ar 10 t).1, []) := by
        unfold exL exT
        rw [if_neg w1, if_neg w1]
      rw [eL]
      exact ⟨rfl, p1, p2, nn1, fun q => absurd q w1⟩
    · rw [p2] at w1
      obtain ⟨q1, q2, ⟨q3, q3'⟩, q4, q5⟩ := p3 w1
      have cT1 : cTn K L W ar TN β0 β1 S A0 (s1.1 65).toInt s1 (z + 1) t := ⟨by rw [← wdT_wdC]; exact RSn_e q4, by omega⟩
      have hI1 := EIn_f hP p1 q1 hI
      have A1 : (s1.1 65).toInt ≤ 100000 := by omega
      have h81 : (s1.1 8).toInt = 0 := by rw [p2]; exact w1
      have hxT : exT K L W ar kd TN Ls S t = (ffs G, wdC K L W ar TN S.1 S.2.1 t) := by
        unfold exT
        rw [if_pos w1, hG]
      refine Par.imp (eb_211 (t := t) hW hI1 h81 h229 A1 q4 w1 hp10 ht (by omega)) ?_
      rintro v4 s3 ⟨rfl, o1, o2, o3, o4, o5, o6⟩
      rw [← hG] at o2
      have nnG : 0 ≤ ffs G := by rw [hG]; exact slG_nn (S := S) hP ht (by omega) w1 hp10
      have E3 : EF0 (nsD K L Ls) B A0 s s3 := EF0_tr p1 o1
      refine ⟨rfl, ?_⟩
      unfold ub_221_15
      rw [h229, h1]
      refine ⟨fun w2 _ x1 hx1 _ _ => ?_, fun w2 => ?_⟩
      · have g0 : ffs G = 0 := by omega
        have F3 : EFl s s3 := EFl_tr q1 o3
        have hI3 := EIn_f hP E3 F3 hI
        have eT1 : (exT K L W ar kd TN Ls S t).1 = 0 := by rw [hxT]; exact g0
        have eT2 : (exT K L W ar kd TN Ls S t).2 = wdC K L W ar TN S.1 S.2.1 t := by rw [hxT]
        obtain ⟨-, tyw⟩ := ty_of hW hI1 A1 q4 w1 hp10
        have cT3 : cTn K L W ar TN β0 β1 S A0 (s3.1 65).toInt s3 (z + 1) t := by
          rw [o6]
          exact cTn_c (x := z + 1) (y := z + 2) ⟨fun q j r1 r2 _ _ => o4 q _ (by omega), fun j _ j2 => o3.2.2.1 j (Or.inl j2)⟩ (Int.le_refl _) (Int.le_refl _) (by omega) cT1
        have tyw : TYp ar (TN.length : Int) β0 β1 (S.2.1.length : Int) (S.1.length : Int) s3 (s3.2.1 231 (z + 1).toNat).toInt (s3.2.1 232 (z + 1).toNat).toInt (wdC K L W ar TN S.1 S.2.1 t) := by
          rw [o4 231 _ (by omega), o4 232 _ (by omega)]
          exact TYp_f o3 tyw
        obtain ⟨c, A', eA⟩ : ∃ c A', wdC K L W ar TN S.1 S.2.1 t = c :: A' := by
          cases hq : wdC K L W ar TN S.1 S.2.1 t with
          | nil =>
            rw [hq] at tyw
            exact absurd rfl (isR_ne tyw.2.2.2.2.1)
          | cons a l => exact ⟨a, l, rfl⟩
        rw [eA] at tyw eT2
        obtain ⟨tc1, -, tc3, tc4, tc5, -⟩ := TYp_c hSP.1 ha tyw
        refine Par.imp x_185 ?_
        rintro v3 s2 ⟨hs2, x4, rfl, hx4⟩
        subst hs2
        rw [tc1] at hx4
        refine ⟨x4, rfl, fun _ x5 hx5 _ => Par.imp (x_220 hW hI3 tyw) ?_⟩
        rintro v7 s6 ⟨hs6, x8, rfl, hx8⟩
        subst hs6
        have tk6 : (s6.2.1 222 (z + 1).toNat).toInt = B + t := by
          rw [EF0_r E3 (q := 222) (by unfold rEx; omega)]
          exact tkz
        have hLn := hP.1.1.2.2 t ht (by omega)
        have hL6 : (s6.2.1 216 (B + t).toNat).toInt = L t := (hI3.1.1.2.2.1 t ht (by omega)).2
        have h86 : (s6.1 8).toInt = 0 := by rw [o2]; exact g0
        refine ⟨x8, rfl, fun w3 _ _ => ?_, fun w3 _ => ?_⟩
        · have hk : kd c = 1 := by omega
          obtain ⟨hc, ⟨fl6, -⟩, f239, -, -⟩ := fld_r (c := c) hP hI3.1 hk
          have rc : rhC β0 β1 c = c := (tc4 (by omega)).2
          have h75 : (s6.1 75).toInt = b := hI3.1.1.1
          rw [rc] at hx4
          rw [h75] at hx1
          have e5 : x5.toInt = 24 * b + c := by omega
          have h6c : ar c ≤ 6 := ar_6 (PG_of hP hI3.1) hc.1 (fun _ => hc.2)
          obtain ⟨η, hη⟩ : ∃ η, η = eta (argT ar (c :: A')) [] := ⟨_, rfl⟩
          obtain ⟨FT, hFT⟩ : ∃ FT, FT = fTy K L W ar TN Ls c := ⟨_, rfl⟩
          obtain ⟨Lv, hLv⟩ : ∃ Lv, Lv = ((exU K L (nxT K L t) N).zip FT).map (tkv K L W ar kd TN Ls S Q η) := ⟨_, rfl⟩
          obtain ⟨gP, gL⟩ := argT_P ha tyw.2.2.2.2.1 tyw.2.2.2.2.2.2 tyw.2.2.2.2.2.1.2
          have l6 : (argT ar (c :: A')).length ≤ 6 := by omega
          rw [← hFT] at fl6 f239
          have c226' : (s6.2.1 226 z.toNat).toInt = (N : Int) := by
            rw [E3.2.2.2.1 _ (by rw [h221]; decide)]
            exact c226
          have f64 : ∀ (u0 : yS) (f0 : Int), R8 s6 u0 → (u0.1 8).toInt = f0 → 0 ≤ f0 → (f0 = 0 → N = FT.length) → ub_221_64 (Par d) a1 ya x5 u0 (EPq K L ar TN Ls B A0 β0 β1 S z z' (aHd K L t - t) (if f0 = 0 then (ffs Lv, c :: A') else (f0, [])) Φ s) := by
            intro u0 f0 r8 u8 u8n hlen
            have F0 : EFl s6 u0 := EFl_8 r8
            have E0 : EF0 (nsD K L Ls) B A0 s6 u0 := EF0_8 r8
            have hIu := EIn_f hP E0 F0 hI3
            have hu100 := hIu.2.2.1.2.1
            have hu65 : (u0.1 65).toInt = (s1.1 65).toInt := by rw [r8.2 65 (by decide), o6]
            obtain ⟨e, hee⟩ : ∃ e : Nat, (u0.1 70).toInt = (e : Int) := ⟨_, (Int.toNat_of_nonneg hIu.2.2.1.2.2).symm⟩
            have tyu : TYp ar (TN.length : Int) β0 β1 (S.2.1.length : Int) (S.1.length : Int) u0 (u0.2.1 231 (z + 1).toNat).toInt (u0.2.1 232 (z + 1).toNat).toInt (c :: A') := by
              rw [r8.1]
              exact TYp_f F0 tyw
            unfold ub_221_64
            rw [h229]
            refine Par.imp (nw_188 hee) ?_
            rintro v2 s7 ⟨x3, rfl, n1, n2, n3, n4, n5, n6, n7⟩
            have TY7 : TYp ar (TN.length : Int) β0 β1 (S.2.1.length : Int) (S.1.length : Int) s7 (s7.2.1 231 (z + 1).toNat).toInt (s7.2.1 232 (z + 1).toNat).toInt (c :: A') := by
              rw [n5 231 _ (by decide), n5 232 _ (by decide)]
              obtain ⟨t1, t2, t3, t4, t5⟩ := tyu
              refine ⟨by rw [n3 65 (by decide)]; exact t1, t2, ?_⟩
              rw [n3 64 (by decide)]
              exact TYe_w (n4 _) ⟨t3, t4, t5⟩
            refine ⟨x3, rfl, fun _ _ => Par.imp x_185 ?_⟩
            rintro v5 s8 ⟨hs8, x6, rfl, hx6⟩
            subst hs8
            rw [(TYp_c hSP.1 ha TY7).1, rc] at hx6
            refine ⟨x6, rfl, fun _ x7 hx7 _ x8 hx8 _ => Par.imp (gx_189 ha h6c TY7 n1) ?_⟩
            rintro v10 s9 ⟨rfl, f1, f2, f3, f4⟩
            have W9 : WFr (u0.1 64).toInt (e : Int) u0 s9 := WFr_tr (n4 _) (WFr_gr f1 (by omega)) (Int.le_refl _) (Int.le_refl _)
            have fld : ∀ k, ¬ k = 70 → s9.1 k = u0.1 k := fun k hk => by rw [f1.1, n3 k hk]
            have e70 : (s9.1 70).toInt = (e : Int) + 1 := by rw [f1.1]; exact n2
            have E9 : EF0 (nsD K L Ls) B A0 s s9 := EF0_tr E3 (EF0_tr E0 (EF0_wf W9 (by omega)))
            have r9 : ∀ q, q < 264 → s9.2.1 q = s6.2.1 q := fun q hq => funext fun j => by rw [W9.2.2.1 q j (Or.inl hq), r8.1]
            obtain ⟨C1, hC1⟩ : ∃ C1, C1 = (s9.2.1 265 (2 * e + 1)).toInt := ⟨_, rfl⟩
            have EV9 : EVk s9 e (1000 + 6 * c) ((argT ar (c :: A')).map (List.map (rhE ar β0 β1))) C1 [] := ⟨⟨by rw [f2]; omega, f3, f4⟩, hC1.symm, by rw [f1.2.2 266 _ (fun q => by omega) (fun q => by omega)]; exact n7, Nat.zero_le _, fun i Y hY => by cases hY⟩
            have f118 : ∀ (R : Int × List Int) (b1 b3 b4 b5 b6 : Int32) (v : yS), EF0 (nsD K L Ls) B A0 s v → (v.1 8).toInt = R.1 → 0 ≤ R.1 → (R.1 = 0 → EFl s9 v ∧ NFx y1 z' s9 v ∧ (v.1 65).toInt ≤ (s9.1 65).toInt + (aHd K L t - nxT K L t) ∧ R.2 = c :: A' ∧ EF0 (nsD K L Ls) B A0 s9 v ∧ ∀ i, i < N → eC K L W ar kd TN Ls B β0 β1 S A0 (v.1 65).toInt v m (zz i) (zz (i + 1)) (uS (nxE K L) (nxT K L t + 1) i) (ww i)) → ub_221_118 (Par d) b1 ya b3 b4 b5 b6 v (EPq K L ar TN Ls B A0 β0 β1 S z z' (aHd K L t - t) R Φ s) := by
              intro R b1 b3 b4 b5 b6 v v1 v2 v2n v3
              unfold ub_221_118
              rw [h229]
              intro _ y1' hy1' s2 hs2 _ _
              refine Par.imp x_216 ?_
              rintro v4 s3 ⟨rfl, hs3⟩
              refine ⟨rfl, rfl, ?_, ?_, v2n, fun q => ?_⟩
              · rw [hs3, hs2]
                exact EF0_tr v1 (EF0_tr (EF0_sf (by unfold fEx; omega)) (EF0_tr (EF0_sf (by unfold fEx; omega)) (EF0_sf (by unfold fEx; omega))))
              · rw [hs3, sfr_1, if_neg (by decide), sfr_1, if_neg (by decide), hs2, sfr_1, if_neg (by decide)]
                exact v2
              · obtain ⟨g1, g2, g3, g4, g5, g6⟩ := v3 q
                have ev70 : (v.1 70).toInt = (e : Int) + 1 := by rw [g1.1.1]; exact e70
                have FX : EFl s6 s3 := by
                  rw [hs3, hs2]
                  exact EFl_tr F0 (EFl_tr (EFl_env W9 rfl (by omega) hee (fld 64 (by decide)) e70 g1 (by omega)) (EFl_tr (EFl_sf (by omega)) (EFl_sf (by omega))))
                have rv : ∀ q, (q = 231 ∨ q = 232) → s2.2.1 q (z + 1).toNat = s6.2.1 q (z + 1).toNat := fun q hq => by
                  rw [hs2, sfr_2, g2 q _ (by omega) (by omega), r9 q (by omega)]
                refine ⟨EFl_tr F3 FX, fun q j hq hj => ?_, ?_, ?_, ?_⟩
                · rw [hs3, sfr_2, sfr_2, hs2, sfr_2, g2 q j hq (by omega), r9 q (by omega), o4 q j (by omega), q2 q j hq (by omega)]
                · rw [hs3, sfr_1, if_neg (by decide), sfr_1, if_neg (by decide), hs2, sfr_1, if_neg (by decide)]
                  rw [fld 65 (by decide)] at g3
                  omega
                · rw [g4]
                  have e80 : s3.1 80 = s6.2.1 231 (z + 1).toNat := by
                    rw [hs3, sfr_1, if_neg (by decide), sfr_1, if_pos rfl]
                    exact rv 231 (Or.inl rfl)
                  have e81 : s3.1 81 = s6.2.1 232 (z + 1).toNat := by
                    rw [hs3, sfr_1, if_pos rfl]
                    exact rv 232 (Or.inr rfl)
                  rw [e80, e81]
                  exact TYp_f FX tyw
                · have c3v : ∀ {x' y' : Int} {A1 A2 : Int}, CFq x' y' A1 A2 v s3 := by
                    rw [hs3, hs2]
                    exact CFq_tr CFq_sf (CFq_tr CFq_sf CFq_sf)
                  have e65 : s3.1 65 = v.1 65 := by rw [hs3, sfr_1, if_neg (by decide), sfr_1, if_neg (by decide), hs2, sfr_1, if_neg (by decide)]
                  have Es3 : EF0 (nsD K L Ls) B A0 s s3 := by
                    rw [hs3, hs2]
                    exact EF0_tr v1 (EF0_tr (EF0_sf (by unfold fEx; omega)) (EF0_tr (EF0_sf (by unfold fEx; omega)) (EF0_sf (by unfold fEx; omega))))
                  have rr : ∀ q, ¬ rEx q → s3.2.1 q = s.2.1 q := fun q hq => EF0_r Es3 hq
                  rw [hΦ]
                  refine ⟨⟨⟨hz, by omega⟩, by rw [rr 227 (by unfold rEx; omega)]; exact h227, ?_⟩, ?_⟩
                  · rw [if_pos hcK, rr 221 (by unfold rEx; omega), rr 229 (by unfold rEx; omega), hya]
                    refine ⟨h221, h229, y1, hy1, yT_e Es3 _ _ _ _ hT, eAr_mk (z := zz) (w := ww) hO ?_ z0 (by rw [← hN]; exact zN) ?_ ?_⟩
                    · rw [← hN, Es3.2.2.2.1 _ (by rw [h221]; decide)]
                      exact c226
                    · rw [← hN, rr 224 (by unfold rEx; omega)]
                      exact c224
                    · rw [← hN]
                      intro i hi
                      obtain ⟨-, t2, t3⟩ := cE i hi
                      refine ⟨?_, t2, by rw [rr 225 (by unfold rEx; omega)]; exact t3⟩
                      rw [e65]
                      exact eC_c m c3v (Int.le_refl _) (g6 i hi)
                  · unfold cHd
                    rw [if_pos hcK]
                    refine cTn_c (x := z + 1) (y := y1) (CFq_tr (CFq_8 r8) (CFq_tr (CFq_wf W9 (by rw [o6]; omega)) (CFq_tr (CFq_of g5 g1 g2 (Or.inl (Int.le_refl _)) (by omega) (by rw [fld 65 (by decide), hu65, o6]; exact Int.le_refl _)) c3v))) ?_ (Int.le_refl _) (by omega) cT3
                    rw [e65, o6, ← hu65, ← fld 65 (by decide)]
                    exact g1.2.1.1
            refine ⟨rfl, fun _ => ?_⟩
            rw [h1]
            by_cases hf0 : f0 = 0
            · rw [if_pos hf0]
              have hlN := hlen hf0
              have hLl : Lv.length = N := by
                rw [hLv, List.length_map, List.length_zip, exU_len, ← hlN, Nat.min_self]
              refine ⟨fun b1 b2 b3 b4 b5 b6 v => b2 = ya ∧ b3 = x5 ∧ b4 = x3 ∧ EF0 (nsD K L Ls) B A0 s9 v ∧ ∃ k : Nat, k ≤ N ∧ b5.toInt = (k : Int) ∧ b6.toInt = (if k < N then ww k else -1) ∧ (v.1 8).toInt = ffs (Lv.take k) ∧ 0 ≤ ffs (Lv.take k) ∧ (ffs (Lv.take k) = 0 → EFl s9 v ∧ NFx y1 (zz k) s9 v ∧ (v.1 65).toInt ≤ (s9.1 65).toInt + (uS (nxE K L) (nxT K L t + 1) k - (nxT K L t + 1)) ∧ v.1 64 = s9.1 64 ∧ ∀ i, i < k → eC K L W ar kd TN Ls B β0 β1 S A0 (v.1 65).toInt v m (zz i) (zz (i + 1)) (uS (nxE K L) (nxT K L t + 1) i) (ww i)), ⟨rfl, rfl, rfl, EF0_rf, 0, Nat.zero_le _, by decide, ?_, ?_, by rw [List.take_zero]; decide, fun _ => ⟨EFl_rf, NFx_rf, ?_, rfl, fun i hi => absurd hi (Nat.not_lt_zero _)⟩⟩, ?_⟩
              · rw [r9 224 (by decide), EF0_r E3 (q := 224) (by unfold rEx; omega)]
                exact c224
              · rw [fld 8 (by decide), u8, hf0, List.take_zero]
                rfl
              · show (s9.1 65).toInt ≤ (s9.1 65).toInt + ((nxT K L t + 1) - (nxT K L t + 1))
                omega
              rintro b1 b2 b3 b4 b5 b6 v ⟨rb2, rb3, rb4, v1, k, k1, k2, k3, k4, k4n, k5⟩
              subst rb2 rb3 rb4
              have Ev : EF0 (nsD K L Ls) B A0 s v := EF0_tr E9 v1
              have uN : uS (nxE K L) (nxT K L t + 1) k ≤ aHd K L t := by
                by_cases hk0 : k = 0
                · rw [hk0]
                  show nxT K L t + 1 ≤ aHd K L t
                  omega
                · have := (oE (k - 1) (by omega)).2.2.1
                  have e1 : uS (nxE K L) (nxT K L t + 1) k = nxE K L (uS (nxE K L) (nxT K L t + 1) (k - 1)) + 1 := by
                    rw [show k = (k - 1) + 1 by omega]
                    rfl
                  omega
              unfold ub_221_94
              refine ⟨fun w4 => ?_, fun w4 => ⟨fun w5 => ?_, fun w5 _ y1' hy1' _ y2' hy2' _ => ?_⟩⟩
              · have hkN : k = N := by
                  by_cases hq : k < N
                  · rw [if_pos hq] at k3
                    have := (cE k hq).2.1
                    omega
                  · omega
                have eF : ffs (Lv.take k) = ffs Lv := by rw [hkN, ← hLl, List.take_length]
                rw [eF] at k4 k4n k5
                refine f118 (ffs Lv, c :: A') _ _ _ _ _ v Ev k4 k4n (fun q => ?_)
                obtain ⟨g1, g2, g3, -, g5⟩ := k5 q
                rw [hkN, zN] at g2
                exact ⟨g1, g2, by omega, rfl, v1, fun i hi => g5 i (by omega)⟩
              · rw [k4] at w5
                have eF := ffs_take w5
                rw [← eF] at k4 k4n w5
                exact f118 (ffs Lv, c :: A') _ _ _ _ _ v Ev k4 k4n (fun q => absurd q w5)
              · rw [k4] at w5
                obtain ⟨g1, g2, g3, g4, g5⟩ := k5 w5
                have hkN : k < N := by
                  by_cases hq : k < N
                  · exact hq
                  · rw [if_neg hq] at k3
                    omega
                rw [if_pos hkN] at k3
                obtain ⟨t1, t2, t3⟩ := cE k hkN
                obtain ⟨o1', o2', o3', -⟩ := oE k hkN
                obtain ⟨Z, hZ⟩ : ∃ Z, FT[k]? = some Z := ⟨_, List.getElem?_eq_getElem (by omega)⟩
                have hIs9 : EIn K L W ar kd TN Ls n B b A0 x y β0 β1 S v := by
                  obtain ⟨i1, i2, i3, i4⟩ := hI
                  have Fs : EFl s (sf v 70 (s.1 70)) := EFl_tr F3 (EFl_tr F0 (EFl_env W9 rfl (by omega) hee (fld 64 (by decide)) e70 g1 (by rw [← hee, F0.1.1, F3.1.1])))
                  have Es : EF0 (nsD K L Ls) B A0 s (sf v 70 (s.1 70)) := EF0_tr Ev (EF0_sf (by unfold fEx; omega))
                  have := EIn_f hP Es Fs ⟨i1, i2, i3, i4⟩
                  obtain ⟨j1, j2, ⟨j3, j4, j5⟩, j6⟩ := this
                  refine ⟨RST_e hP Ev i1, j2, ⟨j3, j4, ?_⟩, j6⟩
                  rw [g1.1.1, e70]
                  omega
                have hfl := fld_r (c := c) hP hIs9.1 hk
                obtain ⟨-, -, -, -, h5⟩ := hfl
                rw [← hFT] at h5
                obtain ⟨q1', q2', q3', q4', q5'⟩ := h5 k Z hZ
                have e2' : y2'.toInt = 6 * (24 * b + c) + (k : Int) := by omega
                have hy : ∀ v', EF0 (nsD K L Ls) B A0 v v' → RSe v' A0 (v.2.1 241 y2'.toInt.toNat).toInt (Z.map (rhE ar (1000 + 6 * c) 2000)) := fun v' hv' => by
                  obtain ⟨-, -, -, -, h6⟩ := fld_r (c := c) hP (RST_e hP hv' hIs9.1) hk
                  rw [← hFT] at h6
                  have := (h6 k Z hZ).1
                  rw [EF0_r hv' (q := 241) (by unfold rEx; omega)] at this
                  rw [e2']
                  exact this
                have q4'' : cdW ((argT ar (c :: A')).length : Int) 0 Z := by rw [gL]; exact q4'
                have hev : Q = exE6 K L W ar kd TN Ls S m := hQ
                have h8v : (v.1 8).toInt = 0 := by omega
                have hTv : eT K L B v m (zz k) (zz (k + 1)) (uS (nxE K L) (nxT K L t + 1) k) b6.toInt := by
                  rw [k3]
                  exact eT_e Ev _ _ _ _ _ t1
                have hAv : (v.1 65).toInt + (nxE K L (uS (nxE K L) (nxT K L t + 1) k) - uS (nxE K L) (nxT K L t + 1) k) ≤ 100000 := by
                  rw [fld 65 (by decide)] at g3
                  omega
                have hpk := hO.2.2.1 k (by rw [← hN]; exact hkN)
                have P222 : Par d 222 [.ref 213, .int b6, .int (v.2.1 241 y2'.toInt.toNat), .int b4] v (fun v0 s' => v0 = none ∧ EF0 (nsD K L Ls) B A0 v s' ∧ (s'.1 8).toInt = tkv K L W ar kd TN Ls S Q η (uS (nxE K L) (nxT K L t + 1) k, Z) ∧ 0 ≤ tkv K L W ar kd TN Ls S Q η (uS (nxE K L) (nxT K L t + 1) k, Z) ∧ (tkv K L W ar kd TN Ls S Q η (uS (nxE K L) (nxT K L t + 1) k, Z) = 0 → EFl v s' ∧ NFx (zz k) (zz (k + 1)) v s' ∧ (s'.1 65).toInt ≤ (v.1 65).toInt + (nxE K L (uS (nxE K L) (nxT K L t + 1) k) - uS (nxE K L) (nxT K L t + 1) k) ∧ s'.1 64 = v.1 64 ∧ eC K L W ar kd TN Ls B β0 β1 S A0 (s'.1 65).toInt s' m (zz k) (zz (k + 1)) (uS (nxE K L) (nxT K L t + 1) k) b6.toInt)) := by
                  cases d with
                  | zero => exact Par_0
                  | succ d =>
                    have hE217 := ih d b6 (zz k) (zz (k + 1)) (uS (nxE K L) (nxT K L t + 1) k) v hIs9 h8v hTv hpk (by omega) (by omega) (fun q q1 q2 => hD q (by omega) (by omega)) hAv
                    rw [← hev] at hE217
                    have hRp : (Z.map (rhE ar (1000 + 6 * c) 2000)).flatMap (rpt (1000 + 6 * c) ((argT ar (c :: A')).map (List.map (rhE ar β0 β1))) C1 []) = (sbs η Z).map (rhE ar β0 β1) := by
                      rw [hη]
                      exact bd_put ha ⟨hc.1, by omega⟩ l6 q4''
                    exact x_222 (e := e) (c0 := 1000 + 6 * c) (c1 := C1) (η := η) (Z := Z) hW hIs9 hTv hE217 ⟨by omega, by omega⟩ hAv hy (EVk_f g1 (by omega) EV9) (by rw [g1.1.1, e70]; omega) n1 hRp q2' q4'' q5' (by rw [hη]; exact pOK_eta l6 gP (fun v hv => absurd hv (List.not_mem_nil)) q4'')
                refine Par.imp P222 ?_
                rintro v4 s10 ⟨rfl, r1, r2, r2n, r3⟩
                refine ⟨rfl, fun _ y5 hy5 _ => ?_⟩
                have hLk : Lv[k]? = some (tkv K L W ar kd TN Ls S Q η (uS (nxE K L) (nxT K L t + 1) k, Z)) := by
                  rw [hLv, List.getElem?_map, zip_at (exU_at hkN) hZ]
                  rfl
                have eFs := ffs_tk hLk
                rw [if_pos w5] at eFs
                refine ⟨rfl, rfl, rfl, EF0_tr v1 r1, k + 1, by omega, by omega, ?_, by rw [eFs]; exact r2, by rw [eFs]; exact r2n, fun q => ?_⟩
                · rw [EF0_r r1 (q := 225) (by unfold rEx; omega), EF0_r Ev (q := 225) (by unfold rEx; omega), k3]
                  exact t3
                · rw [eFs] at q
                  obtain ⟨r4, r5, r6, r7, r8'⟩ := r3 q
                  have zm1 := cmo 0 k (Nat.zero_le _) (by omega)
                  refine ⟨EFl_tr g1 r4, NFx_tr (x1 := y1) (y1 := zz (k + 1)) g2 r5 ⟨Int.le_refl _, by omega⟩ ⟨by omega, Int.le_refl _⟩, ?_, r7.trans g4, fun i hi => ?_⟩
                  · show (s10.1 65).toInt ≤ (s9.1 65).toInt + (nxE K L (uS (nxE K L) (nxT K L t + 1) k) + 1 - (nxT K L t + 1))
                    omega
                  · by_cases hik : i = k
                    · rw [hik, ← k3]
                      exact r8'
                    · have zm2 := cmo (i + 1) k (by omega) (by omega)
                      have zi := (cE i (by omega)).2.1
                      exact eC_c m (CFq_of r1 r4 r5 (Or.inl zm2) zi.1 (Int.le_refl _)) r4.2.1.1 (g5 i (by omega))
            · rw [if_neg hf0]
              refine ⟨fun b1 b2 b3 b4 b5 b6 v => b2 = ya ∧ EF0 (nsD K L Ls) B A0 s v ∧ (v.1 8).toInt = f0, ⟨rfl, E9, by rw [fld 8 (by decide)]; exact u8⟩, ?_⟩
              rintro b1 b2 b3 b4 b5 b6 v ⟨rb2, v1, v2⟩
              subst rb2
              unfold ub_221_94
              exact ⟨fun _ => f118 (f0, []) _ _ _ _ _ v v1 v2 u8n (fun q => absurd q hf0), fun _ => ⟨fun _ => f118 (f0, []) _ _ _ _ _ v v1 v2 u8n (fun q => absurd q hf0), fun w5 => absurd (v2.symm.trans w5) hf0⟩⟩
          rw [e5, f239, c226']
          refine ⟨fun w4 => ?_, fun w4 _ => ?_⟩
          · have hNl : N = FT.length := by omega
            have key := f64 s6 0 ⟨rfl, fun _ _ => rfl⟩ h86 (Int.le_refl _) (fun _ => hNl)
            rw [if_pos rfl] at key
            have eL : exL K L W ar kd TN Ls S Q t = (ffs Lv, c :: A') := by
              unfold exL
              rw [if_pos eT1, eT2, eNV]
              show (if kd c = 1 then (if N = (fTy K L W ar TN Ls c).length then (exP K L W ar kd TN Ls S Q (eta (argT ar (c :: A')) []) ((exU K L (nxT K L t) N).zip (fTy K L W ar TN Ls c)), c :: A') else (4 + 16 * L t, [])) else (6 + 16 * L t, [])) = _
              rw [if_pos hk, ← hFT, if_pos hNl, exP_ffs, ← hη, ← hLv]
            rw [eL]
            exact key
          · have hNl : ¬ N = FT.length := fun q => w4 (by omega)
            refine Par.imp (x_163w (L := L) tk6 h86 hL6) ?_
            rintro v12 s11 ⟨rfl, r1, r2⟩
            rw [if_pos rfl] at r2
            have z4 : (4 : Int32).toInt = 4 := by decide
            rw [z4] at r2
            have key := f64 s11 (4 + 16 * L t) r1 r2 (by omega) (fun q => by exfalso; omega)
            rw [if_neg (by omega)] at key
            have eL : exL K L W ar kd TN Ls S Q t = (4 + 16 * L t, []) := by
              unfold exL
              rw [if_pos eT1, eT2, eNV]
              show (if kd c = 1 then (if N = (fTy K L W ar TN Ls c).length then (exP K L W ar kd TN Ls S Q (eta (argT ar (c :: A')) []) ((exU K L (nxT K L t) N).zip (fTy K L W ar TN Ls c)), c :: A') else (4 + 16 * L t, [])) else (6 + 16 * L t, [])) = _
              rw [if_pos hk, ← hFT, if_neg hNl]
            rw [eL]
            exact ⟨rfl, key⟩
        · have hk : ¬ kd c = 1 := by omega
          refine Par.imp (x_163w (L := L) tk6 h86 hL6) ?_
          rintro v12 s11 ⟨rfl, r1, r2⟩
          rw [if_pos rfl] at r2
          refine ⟨rfl, ?_⟩
          have eL : exL K L W ar kd TN Ls S Q t = (6 + 16 * L t, []) := by
            unfold exL
            rw [if_pos eT1, eT2]
            exact if_neg hk
          rw [eL]
          refine ⟨rfl, EF0_tr E3 (EF0_8 r1), r2, by show 0 ≤ 6 + 16 * L t; omega, fun q => ?_⟩
          exfalso
          have q : 6 + 16 * L t = 0 := q
          omega
      · have eL : exL K L W ar kd TN Ls S Q t = (ffs G, []) := by
          unfold exL
          rw [hxT, if_neg (show ¬ ffs G = 0 by omega)]
        rw [eL]
        exact ⟨rfl, E3, o2, nnG, fun q => by exfalso; have q : ffs G = 0 := q; omega⟩
end ZOS
