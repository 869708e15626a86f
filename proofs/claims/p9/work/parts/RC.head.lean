/-! ===== readHead ===== -/
def W183 (h : Int) (p i : Nat) : Prop := ((p = 244 ∨ p = 245 ∨ p = 248 ∨ p = 251) ∧ (i : Int) = h) ∨ ((p = 246 ∨ p = 247 ∨ p = 249 ∨ p = 250) ∧ 6 * h ≤ (i : Int) ∧ (i : Int) < 6 * h + 6)
/-- a head's name and PARAMS -/
def HDb (K L : Int → Int) (B : Int) (s : yS) (h x y t : Int) (LF : List Int) : Prop := (s.2.1 244 h.toNat).toInt = B + t ∧ (s.2.1 245 h.toNat).toInt = (LF.length : Int) ∧ LF.length ≤ 6 ∧ YA K L B s 246 247 (6 * h) x y LF
def HDv (K L : Int → Int) (B : Int) (s : yS) (h x y : Int) (LV : List Int) : Prop := (s.2.1 248 h.toNat).toInt = (LV.length : Int) ∧ LV.length ≤ 6 ∧ YA K L B s 249 250 (6 * h) x y LV
/-- the head whose name is token t -/
def HDr (K L : Int → Int) (B : Int) (s : yS) (h x y t : Int) : Prop := HDb K L B s h x y t (h_f K L (0, t + 1)) ∧ HDv K L B s h x y (h_v K L (0, t + 1)) ∧ ∃ a b, x ≤ a ∧ b ≤ y ∧ (s.2.1 251 h.toNat).toInt = a ∧ yT K L B s 10 a b (h_3 K L (0, t + 1)).2
section RHD
variable {d : Nat} {K L : Int → Int} {B n N N' x y : Int} {s s' s'' t : yS} {σ ρ τ : RSt} {a1 v : Int32} {f h : Int} {Ls : List Int} {W : Nat → Nat → Prop}
theorem W183_no : ∀ p i, W183 h p i → noR p := fun p i w => by
  unfold W183 at w
  unfold noR nRe nRw
  omega
theorem noR_d {p : Nat} (hp : p = 244 ∨ p = 245 ∨ p = 246 ∨ p = 247 ∨ p = 248 ∨ p = 249 ∨ p = 250 ∨ p = 251) : ¬ p = 228 ∧ ¬ nRe p := by
  unfold nRe nRw
  omega
theorem HDb_fr (hW : ∀ p i, W p i → noR p) (hh : 0 ≤ h) (g : GFx N W s s') (hy : y ≤ N) (h1 : ∀ p i, W183 h p i → (p = 244 ∨ p = 245 ∨ p = 246 ∨ p = 247) → ¬ W p i) (k : HDb K L B s h x y f Ls) : HDb K L B s' h x y f Ls := by
  obtain ⟨k1, k2, k3, k4⟩ := k
  refine ⟨?_, ?_, k3, YA_fr hW g hy (noR_d (by omega)) (noR_d (by omega)) (fun i hi => ⟨h1 246 _ (Or.inr ⟨by omega, by omega, by omega⟩) (by omega), h1 247 _ (Or.inr ⟨by omega, by omega, by omega⟩) (by omega)⟩) k4⟩
  · rw [g.2.2.1 244 _ (by decide) (Or.inl (by unfold nRe nRw; omega)) (h1 _ _ (Or.inl ⟨by omega, by omega⟩) (by omega))]
    exact k1
  · rw [g.2.2.1 245 _ (by decide) (Or.inl (by unfold nRe nRw; omega)) (h1 _ _ (Or.inl ⟨by omega, by omega⟩) (by omega))]
    exact k2
theorem HDv_fr (hW : ∀ p i, W p i → noR p) (hh : 0 ≤ h) (g : GFx N W s s') (hy : y ≤ N) (h1 : ∀ p i, W183 h p i → (p = 248 ∨ p = 249 ∨ p = 250) → ¬ W p i) (k : HDv K L B s h x y Ls) : HDv K L B s' h x y Ls := by
  obtain ⟨k2, k3, k4⟩ := k
  refine ⟨?_, k3, YA_fr hW g hy (noR_d (by omega)) (noR_d (by omega)) (fun i hi => ⟨h1 249 _ (Or.inr ⟨by omega, by omega, by omega⟩) (by omega), h1 250 _ (Or.inr ⟨by omega, by omega, by omega⟩) (by omega)⟩) k4⟩
  rw [g.2.2.1 248 _ (by decide) (Or.inl (by unfold nRe nRw; omega)) (h1 _ _ (Or.inl ⟨by omega, by omega⟩) (by omega))]
  exact k2
theorem HDb_wi {x' y' : Int} (hx : x' ≤ x) (hy : y ≤ y') (k : HDb K L B s h x y f Ls) : HDb K L B s h x' y' f Ls := ⟨k.1, k.2.1, k.2.2.1, YA_wi hx hy k.2.2.2⟩
theorem HDv_wi {x' y' : Int} (hx : x' ≤ x) (hy : y ≤ y') (k : HDv K L B s h x y Ls) : HDv K L B s h x' y' Ls := ⟨k.1, k.2.1, YA_wi hx hy k.2.2⟩
theorem HDr_fr (hW : ∀ p i, W p i → noR p) (hh : 0 ≤ h) (g : GFx N W s s') (hy : y ≤ N) (h1 : ∀ p i, W183 h p i → ¬ W p i) (k : HDr K L B s h x y f) : HDr K L B s' h x y f := by
  obtain ⟨k1, k2, a, b, k3, k4, k5, k6⟩ := k
  refine ⟨HDb_fr hW hh g hy (fun p i w _ => h1 p i w) k1, HDv_fr hW hh g hy (fun p i w _ => h1 p i w) k2, a, b, k3, k4, ?_, GFx_yT hW g (by omega) k6⟩
  rw [g.2.2.1 251 _ (by decide) (Or.inl (by unfold nRe nRw; omega)) (h1 _ _ (Or.inl ⟨by omega, by omega⟩))]
  exact k5
theorem HDr_wi {x' y' : Int} (hx : x' ≤ x) (hy : y ≤ y') (k : HDr K L B s h x y f) : HDr K L B s h x' y' f := by
  obtain ⟨k1, k2, a, b, k3, k4, k5, k6⟩ := k
  exact ⟨HDb_wi hx hy k1, HDv_wi hx hy k2, a, b, by omega, by omega, k5, k6⟩
/-- nothing but the token and the fault: all stays -/
theorem HDb_78 (g : R78 s s') (k : HDb K L B s h x y f Ls) : HDb K L B s' h x y f Ls := by
  obtain ⟨k1, k2, k3, k4⟩ := k
  refine ⟨by rw [g.1]; exact k1, by rw [g.1]; exact k2, k3, fun i w hw => ?_⟩
  obtain ⟨y1, a, b, y2, y3, y4, y5⟩ := k4 i w hw
  rw [g.1]
  exact ⟨y1, a, b, y2, y3, y4, yT_eq 10 _ _ _ y5 ⟨fun _ _ _ _ _ => by rw [g.1], fun _ _ _ => by rw [g.1]⟩⟩
theorem HDv_78 (g : R78 s s') (k : HDv K L B s h x y Ls) : HDv K L B s' h x y Ls := by
  obtain ⟨k2, k3, k4⟩ := k
  refine ⟨by rw [g.1]; exact k2, k3, fun i w hw => ?_⟩
  obtain ⟨y1, a, b, y2, y3, y4, y5⟩ := k4 i w hw
  rw [g.1]
  exact ⟨y1, a, b, y2, y3, y4, yT_eq 10 _ _ _ y5 ⟨fun _ _ _ _ _ => by rw [g.1], fun _ _ _ => by rw [g.1]⟩⟩
/-- the VARs of a head: what stands as the loop begins -/
def HLp (K L : Int → Int) (B n N h : Int) (s : yS) (σ R : RSt) (LF LV : List Int) (b2 : Int32) (t : yS) : Prop := ∃ τ : RSt, RTk K L B n t ∧ RQr B n τ t ∧ GFx N (W183 h) s t ∧ t.1 42 = s.1 42 ∧ (¬ τ.1 = 0 → R = τ) ∧ (τ.1 = 0 → HDb K L B t h N (t.1 26).toInt σ.2 LF ∧ ∃ L0 : List Int, HDv K L B t h N (t.1 26).toInt L0 ∧ ((b2.toInt = 0 ∧ e_k K L 41 τ = R ∧ LV = L0) ∨ (¬ b2.toInt = 0 ∧ p_l K L (n_f K L) 41 (7 - L0.length) τ = R ∧ LV = L0 ++ p_ls K (n_f K L) (7 - L0.length) τ)))
/-- what the whole leaves -/
def HQp (K L : Int → Int) (B n h : Int) (s : yS) (σ : RSt) (s' : yS) : Prop := RTk K L B n s' ∧ RQr B n (p_hd K L (e_k K L 1 σ)) s' ∧ GFx (s.1 26).toInt (W183 h) s s' ∧ ((p_hd K L (e_k K L 1 σ)).1 = 0 → (s'.1 42).toInt = h + 1 ∧ 0 ≤ h ∧ HDr K L B s' h (s.1 26).toInt (s'.1 26).toInt σ.2)
set_option maxHeartbeats 4000000 in
/-- its VARs and its TYPE -/
theorem x_183l (hP : TXp K L n) {b1 b2 : Int32} (hh : b1.toInt = h) (h0 : 0 ≤ h) (hs : (s.1 42).toInt = h) (hL : HLp K L B n (s.1 26).toInt h s σ (h_3 K L (e_k K L 1 σ)) (h_f K L (e_k K L 1 σ)) (h_v K L (e_k K L 1 σ)) b2 t) : ubl_183_51 (Par d) b1 b2 t (fun v s' => v = none ∧ HQp K L B n h s σ s') := by
  generalize hR : h_3 K L (e_k K L 1 σ) = R at hL
  generalize hLF : h_f K L (e_k K L 1 σ) = LF at hL
  generalize hLV : h_v K L (e_k K L 1 σ) = LV at hL
  refine ⟨fun c1 c2 u => c1 = b1 ∧ HLp K L B n (s.1 26).toInt h s σ R LF LV c2 u, ⟨rfl, hL⟩, ?_⟩
  rintro c1 c2 u ⟨rfl, τ, t1, t2, t3, t4, t5, t6⟩
  have hN := t3.2.2.2
  -- the end
  have fin : (τ.1 = 0 → c2.toInt = 0) → ub_183_124 (Par d) c1 c2 u (fun v s' => v = none ∧ HQp K L B n h s σ s') := by
    intro hb
    unfold ub_183_124
    refine Par.imp (x_167 hP t1 t2 (a1 := 41) (by decide)) ?_
    rintro v1 s1 ⟨rfl, p1, p2⟩
    rw [show (41 : Int32).toInt = 41 by decide] at p2
    have p2' : RQr B n R s1 := by
      by_cases hz : τ.1 = 0
      · obtain ⟨-, L0, -, g4⟩ := t6 hz
        rcases g4 with ⟨-, g6, -⟩ | ⟨g5, -⟩
        · rw [← g6]
          exact p2
        · exact absurd (hb hz) g5
      · rw [t5 hz]
        rw [ek_f hz] at p2
        exact p2
    refine ⟨rfl, fun s3 hs3 => ?_⟩
    have e26 : s3.1 26 = u.1 26 := by rw [hs3, sfr_1, if_neg (by decide)]; exact p1.2 26 (by decide) (by decide)
    have e42 : s3.1 42 = s.1 42 := by rw [hs3, sfr_1, if_neg (by decide), p1.2 42 (by decide) (by decide)]; exact t4
    have Q3 : RQr B n R s3 := RQr_1 (by rw [hs3, sfr_1, if_neg (by decide)]) (by rw [hs3, sfr_1, if_neg (by decide)]) p2'
    have T3 : RTk K L B n s3 := by rw [hs3]; exact RTk_eq (s := s1) rfl rfl rfl (RTk_78 p1 t1)
    have F3 : GFx (u.1 26).toInt (W183 h) u s3 := GFx_tr (Int.le_refl _) (GFx_78 p1 (Int.le_refl _)) (by rw [hs3]; exact GFx_sf (by omega) (by rw [p1.2 26 (by decide) (by decide)]; exact Int.le_refl _))
    have e32 : s3.2 = u.2 := by rw [hs3, sfr_2, p1.1]
    have eR : p_hd K L (e_k K L 1 σ) = p_t K L 10 false R := by rw [← hR]; rfl
    -- the TYPE is kept, and the count of heads
    have last : ∀ (y : Int32) (s4 : yS), RTk K L B n s4 → RQr B n (p_t K L 10 false R) s4 → EFx (u.1 26).toInt s3 s4 → ((p_t K L 10 false R).1 = 0 → y.toInt = (u.1 26).toInt ∧ yT K L B s4 10 (u.1 26).toInt (s4.1 26).toInt R.2) → ub_183_140 (Par d) c1 c2 c1 y s4 (fun v s' => v = none ∧ HQp K L B n h s σ s') := by
      intro y s4 q1 q2 q3 q4
      unfold ub_183_140
      rintro - s5 hs5
      have e5 : s5.1 = s4.1 := by rw [hs5]; rfl
      rw [e5]
      intro _ x6 hx6 s7 hs7
      have q26 := q3.2.2.2
      have e7 : s7.1 26 = s4.1 26 := by rw [hs7, sfr_1, if_neg (by decide), e5]
      have r7 : ∀ q j, s7.2.1 q j = if q = 251 ∧ j = c1.toInt.toNat then y else s4.2.1 q j := fun q j => by rw [hs7, sfr_2, hs5, sa_21]
      have F7 : GFx (s4.1 26).toInt (W183 h) s4 s7 := by
        rw [hs7]
        refine GFx_tr (Int.le_refl _) (s' := s5) ?_ (GFx_sf (by omega) (by rw [e5]; exact Int.le_refl _))
        rw [hs5]
        exact GFx_sa (Or.inl ⟨by omega, by omega⟩) (Int.le_refl _)
      have F37 : GFx (u.1 26).toInt (W183 h) u s7 := GFx_tr q26 (GFx_tr (Int.le_refl _) F3 (GFx_E q3)) F7
      refine ⟨rfl, ?_, ?_, GFx_tr hN t3 F37, fun hf => ?_⟩
      · exact GFx_tk W183_no F7 q1
      · rw [eR]
        exact RQr_1 (by rw [hs7, sfr_1, if_neg (by decide), e5]) (by rw [hs7, sfr_1, if_neg (by decide), e5]) q2
      · rw [eR] at hf
        obtain ⟨y1, y2⟩ := q4 hf
        have hR0 : R.1 = 0 := (pt_fw 10 _ _ hf).1
        have hz : τ.1 = 0 := Classical.byContradiction fun w => by
          rw [t5 w] at hR0
          exact w hR0
        obtain ⟨g1, L0, g3, g4⟩ := t6 hz
        rcases g4 with ⟨-, g6, g7⟩ | ⟨g5, -⟩
        · rw [← hR] at hR0
          have hσ := h3_fw hR0
          have es := (ek_0 hσ.1).2.2
          rw [es] at hR hLF hLV
          have e42' : (s7.1 42).toInt = h + 1 := by
            rw [hs7, sfr_1, if_pos rfl, hx6, q3.1 42 (by decide) (by decide) (by decide) (by decide) (by decide), e42, hs]
          -- all but row 251 stays
          have Fb : GFx (u.1 26).toInt (fun p i => p = 251) u s7 := by
            have f0 : GFx (u.1 26).toInt (fun p i => p = 251) u s3 := GFx_tr (Int.le_refl _) (GFx_78 p1 (Int.le_refl _)) (by rw [hs3]; exact GFx_sf (by omega) (by rw [p1.2 26 (by decide) (by decide)]; exact Int.le_refl _))
            refine GFx_tr (Int.le_refl _) (GFx_tr (Int.le_refl _) f0 (GFx_E q3)) ?_
            rw [hs7]
            refine GFx_tr (Int.le_refl _) (s' := s5) ?_ (GFx_sf (by omega) (by rw [e5]; exact q26))
            rw [hs5]
            exact GFx_sa rfl q26
          have hWb : ∀ p i : Nat, p = 251 → noR p := fun p i w => by
            unfold noR nRe nRw
            omega
          refine ⟨e42', h0, ?_, ?_, (u.1 26).toInt, (s7.1 26).toInt, hN, Int.le_refl _, ?_, ?_⟩
          · rw [hLF]
            exact HDb_wi (Int.le_refl _) Fb.2.2.2 (HDb_fr hWb h0 Fb (Int.le_refl _) (fun p i _ w e => by omega) g1)
          · rw [hLV, g7]
            exact HDv_wi (Int.le_refl _) Fb.2.2.2 (HDv_fr hWb h0 Fb (Int.le_refl _) (fun p i _ w e => by omega) g3)
          · rw [r7, if_pos ⟨rfl, by rw [hh]⟩, y1]
          · rw [hR, e7]
            exact GFx_yT W183_no F7 (Int.le_refl _) y2
        · exact absurd (hb hz) g5
    refine ⟨fun w => ?_, fun w => ?_⟩
    · have hf : ¬ R.1 = 0 := by rw [← Q3.1]; exact w
      refine last (-1) s3 T3 (by rw [pt_f 10 hf]; exact Q3) ⟨fun _ _ _ _ _ _ => rfl, rfl, fun _ _ _ _ => rfl, by rw [e26]; exact Int.le_refl _⟩ (fun w2 => ?_)
      rw [pt_f 10 hf] at w2
      exact absurd w2 hf
    · refine Par.imp ((x_17 hP d).1 10 _ s3 (by omega) ⟨T3, Q3, by rw [hs3, sfr_1, if_pos rfl]; decide⟩) ?_
      rintro v5 s4 ⟨x6, rfl, q1, q2, q3, q4, q5, q6⟩
      rw [e26] at q1 q4 q6
      exact ⟨x6, rfl, last x6 s4 q5.1 q5.2.1 (EFx_T q4) (fun hf => ⟨q1, (q6 hf).1⟩)⟩
  unfold ub_183_51
  refine ⟨fun w => fin (fun _ => w), fun w => ⟨fun w0 => fin (fun q => absurd q (by rw [← t2.1]; exact w0)), fun w0 => ?_⟩⟩
  have hz : τ.1 = 0 := by rw [← t2.1]; exact w0
  obtain ⟨g1, L0, g3, g4⟩ := t6 hz
  rcases g4 with ⟨g5, -⟩ | ⟨g5, g6, g7⟩
  · exact absurd g5 w
  obtain ⟨g31, g32, g33⟩ := g3
  obtain ⟨st1, st2⟩ := nm_st g32 hz g6 g7 rfl
  have nxt : ∀ t' : yS, R78 u t' → RQr B n (w_5 K L (decide (L0.length = 6)) τ) t' → ub_183_70 (Par d) (fun c1' c2 u => c1' = c1 ∧ HLp K L B n (s.1 26).toInt h s σ R LF LV c2 u) c1 c2 t' (fun v s' => v = none ∧ HQp K L B n h s σ s') := by
    intro t' r1 r2
    have f26 : t'.1 26 = u.1 26 := r1.2 26 (by decide) (by decide)
    unfold ub_183_70
    refine x_nm (Φ := fun x3 y s4 => ub_183_83 (Par d) _ c1 c2 x3 y s4 _) hP (RTk_78 r1 t1) r2 (fun x3 y s4 k1 k2 k3 k4 => ?_)
    have eN : p_t K L 10 false (e_k K L 1 (w_5 K L (decide (L0.length = 6)) τ)) = n_f K L (decide (L0.length = 6)) τ := by
      rw [w5_e]
      rfl
    rw [eN] at k2 k4
    rw [f26] at k3 k4
    generalize hρ : n_f K L (decide (L0.length = 6)) τ = ρ at k2 k4 st1 st2
    have F4 : GFx (u.1 26).toInt (fun _ _ => False) u s4 := GFx_tr (Int.le_refl _) (GFx_78 r1 (Int.le_refl _)) (GFx_E k3)
    have F4s : GFx (s.1 26).toInt (W183 h) s s4 := GFx_tr hN t3 (GFx_mo (fun _ _ w => absurd w id) F4)
    have e42 : s4.1 42 = s.1 42 := by
      rw [k3.1 42 (by decide) (by decide) (by decide) (by decide) (by decide), r1.2 42 (by decide) (by decide)]
      exact t4
    have com : ∀ (z : yS), RTk K L B n z → RQr B n ρ z → GFx (s.1 26).toInt (W183 h) s z → z.1 42 = s.1 42 → (ρ.1 = 0 → HDb K L B z h (s.1 26).toInt (z.1 26).toInt σ.2 LF ∧ HDv K L B z h (s.1 26).toInt (z.1 26).toInt (L0 ++ [τ.2])) → ub_183_119 (Par d) (fun c1' c2 u => c1' = c1 ∧ HLp K L B n (s.1 26).toInt h s σ R LF LV c2 u) c1 c2 x3 y z (fun v s' => v = none ∧ HQp K L B n h s σ s') := by
      intro z u1 u2 u3 u4 u5
      unfold ub_183_119
      refine Par.imp (x_168 hP u1 u2 (a1 := 44) (by decide)) ?_
      rintro v2 s6 ⟨m1, x7, rfl, m2⟩
      rw [show (44 : Int32).toInt = 44 by decide] at m2
      have m26 : s6.1 26 = z.1 26 := m1.2 26 (by decide) (by decide)
      have G6 : GFx (s.1 26).toInt (W183 h) s s6 := GFx_tr (Int.le_refl _) u3 (GFx_78 m1 u3.2.2.2)
      have e6 : s6.1 42 = s.1 42 := by rw [m1.2 42 (by decide) (by decide)]; exact u4
      refine ⟨x7, rfl, rfl, ?_⟩
      rcases m2 with ⟨m3, m4, m5⟩ | ⟨m3, m4, m5, -⟩
      · have r0 := (tk_t m4).1
        obtain ⟨-, z2, -⟩ := st2 r0
        obtain ⟨z3, z4⟩ := z2 m4
        obtain ⟨z5, z6⟩ := u5 r0
        refine ⟨a_d ρ, RTk_78 m1 u1, m5, G6, e6, fun w => absurd r0 w, fun _ => ⟨by rw [m26]; exact HDb_78 m1 z5, L0 ++ [τ.2], by rw [m26]; exact HDv_78 m1 z6, Or.inr ⟨by omega, ?_, ?_⟩⟩⟩
        · rw [List.length_append]
          exact z3
        · rw [List.length_append]
          exact z4
      · refine ⟨ρ, RTk_78 m1 u1, m5, G6, e6, st1, fun r0 => ?_⟩
        obtain ⟨-, -, z2⟩ := st2 r0
        obtain ⟨z3, z4⟩ := z2 m4
        obtain ⟨z5, z6⟩ := u5 r0
        exact ⟨by rw [m26]; exact HDb_78 m1 z5, L0 ++ [τ.2], by rw [m26]; exact HDv_78 m1 z6, Or.inl ⟨m3, z3, z4⟩⟩
    unfold ub_183_83
    refine ⟨fun hf => com s4 k1 k2 F4s e42 (fun r0 => absurd r0 (by rw [← k2.1]; exact hf)), fun hf => ?_⟩
    have r0 : ρ.1 = 0 := by rw [← k2.1]; exact hf
    obtain ⟨z1, -, -⟩ := st2 r0
    obtain ⟨y1, y2, y3⟩ := k4 r0
    have t0 : w_5 K L (decide (L0.length = 6)) τ = τ := by
      unfold w_5
      rw [if_neg (fun w => by have := of_decide_eq_true w.1; omega)]
    rw [t0] at y1 y3
    have r248 : ∀ i, s4.2.1 248 i = u.2.1 248 i := fun i => F4.2.2.1 248 i (by decide) (Or.inl (by unfold nRe nRw; omega)) id
    intro _ x6 hx6 _
    rw [r248, hh, g31]
    intro _ x7 hx7 _ s8 hs8 _ x9 hx9 _
    have r8 : ∀ q j, s8.2.1 q j = if q = 249 ∧ j = x7.toInt.toNat then x3 else s4.2.1 q j := fun q j => by rw [hs8, sa_21]
    rw [r8, if_neg (by omega), r248, g31]
    intro _ x10 hx10 _ s11 hs11 _
    have ex : x10.toInt.toNat = x7.toInt.toNat := by omega
    rw [ex] at hs11
    have r11 : ∀ q j, s11.2.1 q j = if q = 250 ∧ j = x7.toInt.toNat then y else if q = 249 ∧ j = x7.toInt.toNat then x3 else s4.2.1 q j := fun q j => by rw [hs11, sa_21, r8]
    rw [r11, if_neg (by omega), if_neg (by omega), r248, g31]
    intro _ x12 hx12 _ s13 hs13
    have r13 : ∀ q j, s13.2.1 q j = if q = 248 ∧ j = h.toNat then x12 else if q = 250 ∧ j = x7.toInt.toNat then y else if q = 249 ∧ j = x7.toInt.toNat then x3 else s4.2.1 q j := fun q j => by rw [hs13, sa_21, r11]
    have e13 : s13.1 = s4.1 := by rw [hs13, hs11, hs8]; rfl
    have hx7h : x7.toInt = 6 * h + (L0.length : Int) := by omega
    have F13 : GFx (s4.1 26).toInt (fun p i => (p = 248 ∧ (i : Int) = h) ∨ ((p = 249 ∨ p = 250) ∧ (i : Int) = 6 * h + (L0.length : Int))) s4 s13 := by
      refine ⟨fun k _ _ _ _ _ _ => by rw [e13], by rw [hs13, hs11, hs8]; rfl, fun p i _ _ w => ?_, by rw [e13]; exact Int.le_refl _⟩
      rw [r13, if_neg (by omega), if_neg (by omega), if_neg (by omega)]
    have no13 : ∀ p i : Nat, ((p = 248 ∧ (i : Int) = h) ∨ ((p = 249 ∨ p = 250) ∧ (i : Int) = 6 * h + (L0.length : Int))) → noR p := fun p i w => by
      unfold noR nRe nRw
      omega
    have in13 : ∀ p i : Nat, ((p = 248 ∧ (i : Int) = h) ∨ ((p = 249 ∨ p = 250) ∧ (i : Int) = 6 * h + (L0.length : Int))) → W183 h p i := fun p i w => by
      unfold W183
      omega
    have k26 := k3.2.2.2
    refine com s13 (GFx_tk no13 F13 k1) (RQr_1 (by rw [e13]) (by rw [e13]) k2) (GFx_tr (show (s.1 26).toInt ≤ (s4.1 26).toInt by omega) F4s (GFx_mo in13 F13)) (by rw [e13]; exact e42) (fun _ => ⟨?_, ?_, ?_, ?_⟩)
    · rw [e13]
      exact HDb_wi (Int.le_refl _) k26 (HDb_fr no13 h0 F13 k26 (fun p i _ w e => by omega) (HDb_fr (fun _ _ w => absurd w id) h0 F4 (Int.le_refl _) (fun _ _ _ _ => id) g1))
    · rw [r13, if_pos ⟨rfl, rfl⟩, hx12, List.length_append]
      simp only [List.length_cons, List.length_nil]
      omega
    · rw [List.length_append]
      simp only [List.length_cons, List.length_nil]
      omega
    · have ex2 : x7.toInt.toNat = (6 * h + (L0.length : Int)).toNat := by omega
      have Y4 := YA_fr (W := fun _ _ => False) (fun _ _ w => absurd w id) F4 (Int.le_refl _) (noR_d (p := 249) (by omega)) (noR_d (p := 250) (by omega)) (fun _ _ => ⟨id, id⟩) g33
      refine YA_add (a := (u.1 26).toInt) (b := (s4.1 26).toInt) (YA_wi (Int.le_refl _) (by rw [e13]; exact k26) (YA_fr no13 F13 k26 (noR_d (p := 249) (by omega)) (noR_d (p := 250) (by omega)) (fun i hi => ⟨by omega, by omega⟩) Y4)) ?_ ?_ hN (by rw [e13]; exact Int.le_refl _) (GFx_yT no13 F13 (Int.le_refl _) y3)
      · rw [← ex2, r13, if_neg (by omega), if_neg (by omega), if_pos ⟨rfl, rfl⟩, y1]
      · rw [← ex2, r13, if_neg (by omega), if_pos ⟨rfl, rfl⟩, y2]
  rw [hh, g31]
  refine fun _ => ⟨fun h6 => ?_, fun h6 => ?_⟩
  · refine nxt u R78_rf ?_
    have : w_5 K L (decide (L0.length = 6)) τ = τ := by
      unfold w_5
      rw [if_neg (fun w => by have := of_decide_eq_true w.1; omega)]
    rw [this]
    exact t2
  · have hd : decide (L0.length = 6) = true := decide_eq_true (by omega)
    refine Par.imp (x_166 t1 t2) ?_
    rintro v2 s2 ⟨rfl, x3, rfl, hr⟩
    refine ⟨x3, rfl, fun w3 => ?_, fun w3 => ?_⟩
    · rcases hr with ⟨z1, -⟩ | ⟨-, z1⟩
      · omega
      refine nxt s2 R78_rf ?_
      have : w_5 K L (decide (L0.length = 6)) τ = τ := by
        unfold w_5
        rw [if_neg (fun w => by rw [z1] at w; cases w.2)]
      rw [this]
      exact t2
    · rcases hr with ⟨-, z1⟩ | ⟨z1, -⟩
      · refine Par.imp (x_163h t1 t2 (w := 5) (by decide) (by decide) (fun _ => rfl)) ?_
        rintro v5 s5 ⟨rfl, j1, j2, j3⟩
        rw [if_pos hz] at j3
        refine ⟨rfl, nxt s5 j1 ?_⟩
        unfold w_5
        rw [if_pos ⟨hd, z1⟩]
        exact j3
      · omega
end RHD
