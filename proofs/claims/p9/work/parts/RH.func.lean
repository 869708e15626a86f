/-! ===== readFunc: tables ===== -/
/-- what readFunc may write: func G, heads from h on, declaration e, the counts of bank b -/
def W184 (G h e b : Int) (p i : Nat) : Prop := ((253 ≤ p ∧ p ≤ 258) ∧ (i : Int) = G) ∨ ((p = 244 ∨ p = 245 ∨ p = 248 ∨ p = 251) ∧ h ≤ (i : Int)) ∨ ((p = 246 ∨ p = 247 ∨ p = 249 ∨ p = 250) ∧ 6 * h ≤ (i : Int)) ∨ (p = 262 ∧ (i : Int) = e) ∨ ((p = 263 ∨ p = 252) ∧ (i : Int) = b)
/-- its own row -/
def WFn (G : Int) (p i : Nat) : Prop := (253 ≤ p ∧ p ≤ 258) ∧ (i : Int) = G
def WFe (e b : Int) (p i : Nat) : Prop := (p = 262 ∧ (i : Int) = e) ∨ ((p = 263 ∨ p = 252) ∧ (i : Int) = b)
/-- VAR, NAME, PARAMS of the receiver -/
def FNb (B : Int) (s : yS) (G t1 t2 t3 : Int) (LP : List Int) : Prop := (s.2.1 253 G.toNat).toInt = B + t1 ∧ (s.2.1 254 G.toNat).toInt = B + t2 ∧ (s.2.1 255 G.toNat).toInt = (LP.length : Int) ∧ LP.length ≤ 6 ∧ (LP ≠ [] → (s.2.1 256 G.toNat).toInt = B + t3)
/-- an E in a row -/
def ErA (K L : Int → Int) (B : Int) (s : yS) (p : Nat) (i x y t : Int) : Prop := ∃ a c e, x ≤ a ∧ c ≤ y ∧ 0 ≤ a ∧ (a ≤ e ∧ e < c) ∧ (s.2.1 p i.toNat).toInt = e ∧ eT K L B s 10 a c t e
/-- the func whose declaration begins at token t -/
def FNr (K L : Int → Int) (B : Int) (s : yS) (G h x y t : Int) : Prop := FNb B s G (f_1 K L false (0, t)).2 (f_2 K L false (0, t)).2 ((f_3 K L false (0, t)).2 + 1) (fPa K L false (0, t)) ∧ (s.2.1 257 G.toNat).toInt = h ∧ HDr K L B s h x y (f_5 K L false (0, t)).2 ∧ ErA K L B s 258 G x y (f_7 K L false (0, t)).2
/-- what readFunc leaves: R where it stands, F funcs and M declarations stood -/
def FQp (K L : Int → Int) (B n G h e b F M : Int) (s : yS) (R : RSt) (t0 : Int) (s' : yS) : Prop := RTk K L B n s' ∧ RQr B n R s' ∧ GFx (s.1 26).toInt (W184 G h e b) s s' ∧ (R.1 = 0 → FNr K L B s' G h (s.1 26).toInt (s'.1 26).toInt t0 ∧ (s'.1 42).toInt = h + 1 ∧ (s'.2.1 262 e.toNat).toInt = 100 + F ∧ (s'.2.1 263 b.toNat).toInt = M + 1 ∧ (s'.2.1 252 b.toNat).toInt = F + 1)
section RFN
variable {d : Nat} {K L : Int → Int} {B n N N' x y : Int} {s s' s'' t : yS} {σ ρ τ : RSt} {a1 v : Int32} {G h e b F M : Int} {LP Ls : List Int} {W : Nat → Nat → Prop} {R : RSt} {p i : Nat} {j z : Int}
theorem W184_no : ∀ p i, W184 G h e b p i → noR p := fun p i w => by
  unfold W184 at w
  unfold noR nRe nRw
  omega
theorem WFn_no : ∀ p i, WFn G p i → noR p := fun p i w => by
  unfold WFn at w
  unfold noR nRe nRw
  omega
theorem WFe_no : ∀ p i, WFe e b p i → noR p := fun p i w => by
  unfold WFe at w
  unfold noR nRe nRw
  omega
theorem WFn_W184 : ∀ p i, WFn G p i → W184 G h e b p i := fun p i w => Or.inl w
theorem WFe_W184 : ∀ p i, WFe e b p i → W184 G h e b p i := fun p i w => by
  rcases w with w | w
  · exact Or.inr (Or.inr (Or.inr (Or.inl w)))
  · exact Or.inr (Or.inr (Or.inr (Or.inr w)))
theorem W183_W184 : ∀ p i, W183 h p i → W184 G h e b p i := fun p i w => by
  rcases w with ⟨a1, a2⟩ | ⟨a1, a2, a3⟩
  · exact Or.inr (Or.inl ⟨a1, by omega⟩)
  · exact Or.inr (Or.inr (Or.inl ⟨a1, by omega⟩))
theorem WFe_lo (w : WFe e b p i) : p = 262 ∨ p = 263 ∨ p = 252 := by
  unfold WFe at w
  omega
theorem GFx_eRq (hW : ∀ p i, W p i → noR p) (g : GFx N W s s') (hy : y ≤ N) (hx : 0 ≤ x) : eRq x y z s s' := by
  refine ⟨fun p i hp h1 h2 => g.2.2.1 p _ (by omega) (Or.inr (by omega)) (fun w => (hW _ _ w).1 (by unfold nRe nRw; omega)), fun i h1 h2 _ => g.2.2.1 225 _ (by decide) (Or.inr (by omega)) (fun w => (hW _ _ w).1 (by unfold nRe nRw; omega))⟩
theorem ErA_fr (hW : ∀ p i, W p i → noR p) (g : GFx N W s s') (hy : y ≤ N) (hp : 233 ≤ p) (hw : ¬ W p j.toNat) (k : ErA K L B s p j x y z) : ErA K L B s' p j x y z := by
  obtain ⟨a, c, e, k1, k2, k3, k4, k5, k6⟩ := k
  exact ⟨a, c, e, k1, k2, k3, k4, by rw [GFx_rd g hp hw]; exact k5, eT_eq 10 _ _ _ _ k6 (GFx_eRq hW g (by omega) k3)⟩
theorem ErA_wi {x' y' : Int} (hx : x' ≤ x) (hy : y ≤ y') (k : ErA K L B s p j x y z) : ErA K L B s p j x' y' z := by
  obtain ⟨a, c, e, k1, k2, k3⟩ := k
  exact ⟨a, c, e, by omega, by omega, k3⟩
theorem FNb_fr {t1 t2 t3 : Int} (g : GFx N W s s') (h1 : ∀ p : Nat, 253 ≤ p → p ≤ 256 → ¬ W p G.toNat) (k : FNb B s G t1 t2 t3 LP) : FNb B s' G t1 t2 t3 LP := by
  obtain ⟨k1, k2, k3, k4, k5⟩ := k
  refine ⟨?_, ?_, ?_, k4, fun hl => ?_⟩
  · rw [GFx_rd g (by omega) (h1 253 (by omega) (by omega))]
    exact k1
  · rw [GFx_rd g (by omega) (h1 254 (by omega) (by omega))]
    exact k2
  · rw [GFx_rd g (by omega) (h1 255 (by omega) (by omega))]
    exact k3
  · rw [GFx_rd g (by omega) (h1 256 (by omega) (by omega))]
    exact k5 hl
theorem FNr_fr (hW : ∀ p i, W p i → noR p) (hh : 0 ≤ h) (g : GFx N W s s') (hy : y ≤ N) (h1 : ∀ p : Nat, 253 ≤ p → p ≤ 258 → ¬ W p G.toNat) (h2 : ∀ p i, W183 h p i → ¬ W p i) (k : FNr K L B s G h x y z) : FNr K L B s' G h x y z := by
  obtain ⟨k1, k2, k3, k4⟩ := k
  refine ⟨FNb_fr g (fun p p1 p2 => h1 p p1 (by omega)) k1, ?_, HDr_fr hW hh g hy h2 k3, ErA_fr hW g hy (by omega) (h1 258 (by omega) (by omega)) k4⟩
  rw [GFx_rd g (by omega) (h1 257 (by omega) (by omega))]
  exact k2
theorem FNr_wi {x' y' : Int} (hx : x' ≤ x) (hy : y ≤ y') (k : FNr K L B s G h x y z) : FNr K L B s G h x' y' z := ⟨k.1, k.2.1, HDr_wi hx hy k.2.2.1, ErA_wi hx hy k.2.2.2⟩
/-- behind one more of a list -/
theorem ls_st {k : Nat} {c0 : Int} {LL L0 : List Int} {g : Bool → RSt → RSt} (hg : ∀ σ, ¬ (g true σ).1 = 0) (hk : k ≤ 6) (hR : p_l K L g c0 (7 - k) τ = R) (hL : LL = L0 ++ p_ls K g (7 - k) τ) : let ρ := g (decide (k = 6)) τ
    (¬ ρ.1 = 0 → R = ρ) ∧ (ρ.1 = 0 → k < 6 ∧ (t_k K 44 ρ = true → p_l K L g c0 (7 - (k + 1)) (a_d ρ) = R ∧ LL = (L0 ++ [τ.2]) ++ p_ls K g (7 - (k + 1)) (a_d ρ)) ∧ (t_k K 44 ρ = false → e_k K L c0 ρ = R ∧ LL = L0 ++ [τ.2])) := by
  intro ρ
  have e : 7 - k = (6 - k) + 1 := by omega
  have hb : decide (6 - k = 0) = decide (k = 6) := by
    by_cases h : k = 6
    · rw [decide_eq_true h, decide_eq_true (by omega)]
    · rw [decide_eq_false h, decide_eq_false (by omega)]
  rw [e, pl_s, hb] at hR
  rw [e, pls_s, hb] at hL
  change (if 6 - k ≠ 0 ∧ t_k K 44 ρ = true then p_l K L g c0 (6 - k) (a_d ρ) else e_k K L c0 ρ) = R at hR
  change LL = L0 ++ τ.2 :: (if 6 - k ≠ 0 ∧ t_k K 44 ρ = true then p_ls K g (6 - k) (a_d ρ) else []) at hL
  refine ⟨fun hf => ?_, fun hf => ?_⟩
  · rw [if_neg (fun w => hf (tk_t w.2).1), ek_f hf] at hR
    exact hR.symm
  · have hk6 : k < 6 := by
      rcases Nat.lt_or_ge k 6 with h | h
      · exact h
      · exfalso
        have : ρ = g true τ := by
          show g (decide (k = 6)) τ = _
          rw [decide_eq_true (by omega)]
        rw [this] at hf
        exact hg _ hf
    rw [show 7 - (k + 1) = 6 - k by omega]
    refine ⟨hk6, fun hc => ?_, fun hc => ?_⟩
    · rw [if_pos ⟨by omega, hc⟩] at hR hL
      exact ⟨hR, by rw [hL]; simp⟩
    · rw [if_neg (fun w => by rw [hc] at w; cases w.2)] at hR hL
      exact ⟨hR, hL⟩
set_option maxHeartbeats 4000000 in
/-- from ) on -/
theorem x_184t (hP : TXp K L n) (hG : a1.toInt = G) (h0 : 0 ≤ G) (hh : 0 ≤ h) (hb : (s.1 30).toInt = b) (hM : (s.2.1 263 b.toNat).toInt = M) (hM0 : 0 ≤ M) (hF : (s.2.1 252 b.toNat).toInt = F) (he : e = 84 * b + M) (hs : (s.1 42).toInt = h) (t1 : RTk K L B n t) (t2 : RQr B n (f_4 K L false σ) t) (t3 : GFx (s.1 26).toInt (WFn G) s t) (t4 : t.1 42 = s.1 42) (t5 : (f_4 K L false σ).1 = 0 → σ.1 = 0 ∧ FNb B t G (f_1 K L false σ).2 (f_2 K L false σ).2 ((f_3 K L false σ).2 + 1) (fPa K L false σ)) (t6 : 0 ≤ (f_4 K L false σ).1) : ub_184_103 (Par d) a1 t (fun v s' => v = none ∧ FQp K L B n G h e b F M s (p_fn K L false σ) σ.2 s') := by
  have hN := t3.2.2.2
  unfold ub_184_103
  refine Par.imp (x_167 hP t1 t2 (a1 := 41) (by decide)) ?_
  rintro v1 s1 ⟨rfl, p1, p2⟩
  rw [show (41 : Int32).toInt = 41 by decide] at p2
  change RQr B n (f_5 K L false σ) s1 at p2
  have e142 : s1.1 42 = s.1 42 := by rw [p1.2 42 (by decide) (by decide)]; exact t4
  have e126 : s1.1 26 = t.1 26 := p1.2 26 (by decide) (by decide)
  refine ⟨rfl, fun _ s3 hs3 => ?_⟩
  rw [hG, e142] at hs3
  have e3 : s3.1 = s1.1 := by rw [hs3]; rfl
  have r3 : ∀ q j, s3.2.1 q j = if q = 257 ∧ j = G.toNat then s.1 42 else s1.2.1 q j := fun q j => by rw [hs3, sa_21]
  have G3 : GFx (t.1 26).toInt (fun p i => p = 257 ∧ (i : Int) = G) t s3 := by
    rw [hs3]
    exact GFx_tr (Int.le_refl _) (GFx_78 p1 (Int.le_refl _)) (GFx_sa ⟨rfl, by omega⟩ (by rw [e126]; exact Int.le_refl _))
  have F3 : GFx (s.1 26).toInt (WFn G) s s3 := GFx_tr hN t3 (GFx_mo (fun p i w => ⟨by omega, w.2⟩) G3)
  have T3 : RTk K L B n s3 := by
    rw [hs3]
    exact RTk_sa (by decide) (RTk_78 p1 t1)
  have f5n : 0 ≤ (f_5 K L false σ).1 := by
    unfold f_5 e_k
    by_cases hz : (f_4 K L false σ).1 = 0
    · rw [if_pos hz]
      have := (hP.2.2 _ (t2.2 hz).2.1 (t2.2 hz).2.2).1
      by_cases hk : K (f_4 K L false σ).2 = 41
      · rw [if_pos hk]
        dsimp only
        omega
      · rw [if_neg hk]
        dsimp only
        omega
    · rw [if_neg hz]
      exact t6
  refine Par.imp (x_183 hP T3 (RQr_1 (s := s1) (by rw [e3]) (by rw [e3]) p2) f5n) ?_
  rintro v5 s4 ⟨rfl, q1, q2, q3, q4⟩
  have e326 : (s3.1 26).toInt = (t.1 26).toInt := by rw [e3, e126]
  have e342 : (s3.1 42).toInt = h := by rw [e3, e142]; exact hs
  rw [e326, e342] at q3
  rw [e326, e342] at q4
  change RQr B n (p_hd K L (f_6 K L false σ)) s4 at q2
  change (p_hd K L (f_6 K L false σ)).1 = 0 → _ at q4
  have q26 := q3.2.2.2
  refine ⟨rfl, ?_⟩
  refine Par.imp (x_167 hP q1 q2 (a1 := 123) (by decide)) ?_
  rintro v7 s6 ⟨rfl, k1, k2⟩
  rw [show (123 : Int32).toInt = 123 by decide] at k2
  refine ⟨rfl, ?_⟩
  refine Par.imp (x_169 hP (RTk_78 k1 q1) k2 (a1 := 4) (by decide) (by decide)) ?_
  rintro v9 s8 ⟨rfl, m1, m2⟩
  rw [show (4 : Int32).toInt + 3 = 7 by decide] at m2
  change RQr B n (f_7 K L false σ) s8 at m2
  have km := R78_tr k1 m1
  refine ⟨rfl, fun s10 hs10 => ?_⟩
  have e10 : ∀ k, ¬ k = 7 → ¬ k = 8 → ¬ k = 27 → s10.1 k = s4.1 k := fun k h7 h8 h27 => by
    rw [hs10, sfr_1, if_neg h27]
    exact km.2 k h7 h8
  have T10 : RTk K L B n s10 := by
    rw [hs10]
    exact RTk_eq (s := s8) rfl rfl rfl (RTk_78 km q1)
  have Q10 : RQr B n (f_7 K L false σ) s10 := RQr_1 (s := s8) (by rw [hs10, sfr_1, if_neg (by decide)]) (by rw [hs10, sfr_1, if_neg (by decide)]) m2
  have G10 : GFx (s4.1 26).toInt (fun _ _ => False) s4 s10 := by
    rw [hs10]
    exact GFx_tr (Int.le_refl _) (GFx_78 km (Int.le_refl _)) (GFx_sf (by omega) (by rw [km.2 26 (by decide) (by decide)]; exact Int.le_refl _))
  have e1026 : s10.1 26 = s4.1 26 := e10 26 (by decide) (by decide) (by decide)
  have last : ∀ (x12 : Int32) (u : yS), RTk K L B n u → RQr B n (p_e K L 10 false (f_7 K L false σ)) u → EFx (s4.1 26).toInt s10 u → ((p_e K L 10 false (f_7 K L false σ)).1 = 0 → 0 ≤ (s4.1 26).toInt ∧ (s4.1 26).toInt ≤ x12.toInt ∧ x12.toInt < (u.1 26).toInt ∧ eT K L B u 10 (s4.1 26).toInt (u.1 26).toInt (f_7 K L false σ).2 x12.toInt) → ub_184_133 (Par d) a1 a1 x12 u (fun v s' => v = none ∧ FQp K L B n G h e b F M s (p_fn K L false σ) σ.2 s') := by
    intro x12 u u1 u2 u3 u4
    have uN := u3.2.2.2
    unfold ub_184_133
    rintro - s1' hs1'
    rw [hG] at hs1'
    have e1' : s1'.1 = u.1 := by rw [hs1']; rfl
    have r1' : ∀ q j, s1'.2.1 q j = if q = 258 ∧ j = G.toNat then x12 else u.2.1 q j := fun q j => by rw [hs1', sa_21]
    have G1' : GFx (u.1 26).toInt (fun p i => p = 258 ∧ (i : Int) = G) u s1' := by
      rw [hs1']
      exact GFx_sa ⟨rfl, by omega⟩ (Int.le_refl _)
    have no1' : ∀ p i : Nat, (p = 258 ∧ (i : Int) = G) → noR p := fun p i w => by
      unfold noR nRe nRw
      omega
    refine Par.imp (x_167 hP (GFx_tk no1' G1' u1) (RQr_1 (s := u) (by rw [e1']) (by rw [e1']) u2) (a1 := 125) (by decide)) ?_
    rintro v3 s2 ⟨rfl, c1, c2⟩
    rw [show (125 : Int32).toInt = 125 by decide] at c2
    change RQr B n (p_fn K L false σ) s2 at c2
    -- from s4 to s2: only row 258
    have G42 : GFx (s4.1 26).toInt (fun p i => p = 258 ∧ (i : Int) = G) s4 s2 := GFx_tr uN (GFx_tr (Int.le_refl _) (GFx_mo (fun _ _ w => absurd w id) G10) (GFx_E u3)) (GFx_tr (Int.le_refl _) G1' (GFx_78 c1 (by rw [e1']; exact Int.le_refl _)))
    -- from s to s2
    have F42 : GFx (s.1 26).toInt (fun p i => WFn G p i ∨ W183 h p i) s s2 := by
      refine GFx_tr hN (GFx_mo (fun _ _ w => Or.inl w) ?_) (GFx_tr q26 (GFx_mo (fun _ _ w => Or.inr w) q3) (GFx_mo (fun p i w => Or.inl ⟨by omega, w.2⟩) G42))
      exact F3
    have lo42 : ∀ p i, (WFn G p i ∨ W183 h p i) → 244 ≤ p ∧ p ≤ 258 ∧ ¬ p = 252 := fun p i w => by
      rcases w with w | w
      · unfold WFn at w
        omega
      · have := W183_lo w
        omega
    have e230 : (s2.1 30).toInt = b := by
      rw [F42.1 30 (by decide) (by decide) (by decide) (by decide) (by decide) (by decide), hb]
    have m1' : (s2.2.1 263 b.toNat).toInt = M := by
      rw [GFx_rd F42 (by omega) (fun w => by have := lo42 _ _ w; omega), hM]
    have m2' : (s2.2.1 252 b.toNat).toInt = F := by
      rw [GFx_rd F42 (by omega) (fun w => by have := lo42 _ _ w; omega), hF]
    refine ⟨rfl, ?_⟩
    rw [e230, m1', m2']
    intro _ x4 hx4 hb2 _ x5 hx5 _ _ x6 hx6 _ s7 hs7
    have ex5 : x5.toInt.toNat = e.toNat := by rw [he]; omega
    rw [ex5] at hs7
    have e7 : s7.1 = s2.1 := by rw [hs7]; rfl
    have r7 : ∀ q j, s7.2.1 q j = if q = 262 ∧ j = e.toNat then x6 else s2.2.1 q j := fun q j => by rw [hs7, sa_21]
    rw [e7, e230]
    intro _
    rw [r7, if_neg (by omega), m1']
    intro _ x8 hx8 _ s9 hs9
    have e9 : s9.1 = s2.1 := by rw [hs9, ← e7]; rfl
    have r9 : ∀ q j, s9.2.1 q j = if q = 263 ∧ j = b.toNat then x8 else if q = 262 ∧ j = e.toNat then x6 else s2.2.1 q j := fun q j => by rw [hs9, sa_21, r7]
    rw [e9, e230]
    intro _
    rw [r9, if_neg (by omega), if_neg (by omega), m2']
    intro _ x10 hx10 _ s11 hs11
    have e11 : s11.1 = s2.1 := by rw [hs11, ← e9]; rfl
    have r11 : ∀ q j, s11.2.1 q j = if q = 252 ∧ j = b.toNat then x10 else if q = 263 ∧ j = b.toNat then x8 else if q = 262 ∧ j = e.toNat then x6 else s2.2.1 q j := fun q j => by rw [hs11, sa_21, r9]
    have he0 : 0 ≤ e := by omega
    have G11 : GFx (s2.1 26).toInt (WFe e b) s2 s11 := by
      refine ⟨fun q _ _ _ _ _ _ => by rw [e11], by rw [hs11, hs9, hs7]; rfl, fun p i _ _ w => ?_, by rw [e11]; exact Int.le_refl _⟩
      unfold WFe at w
      rw [r11, if_neg (fun q => w (by omega)), if_neg (fun q => w (by omega)), if_neg (fun q => w (by omega))]
    have h42 := F42.2.2.2
    have in42 : ∀ p i, (WFn G p i ∨ W183 h p i) → W184 G h e b p i := fun p i w => by
      rcases w with w | w
      · exact WFn_W184 p i w
      · exact W183_W184 p i w
    have T2 : RTk K L B n s2 := RTk_78 c1 (GFx_tk no1' G1' u1)
    refine ⟨rfl, GFx_tk WFe_no G11 T2, RQr_1 (s := s2) (by rw [e11]) (by rw [e11]) c2, GFx_tr h42 (GFx_mo in42 F42) (GFx_mo WFe_W184 G11), fun hf => ?_⟩
    have hE : (p_e K L 10 false (f_7 K L false σ)).1 = 0 := (ek_0 hf).1
    have h7 : (f_7 K L false σ).1 = 0 := (pe_fw 10 _ _ hE).1
    have hH : (p_hd K L (f_6 K L false σ)).1 = 0 := (ek_0 (ek_0 h7).1).1
    have h6 : (f_6 K L false σ).1 = 0 := (hd_fw hH).1
    have h5 : (f_5 K L false σ).1 = 0 := (ek_0 h6).1
    have h4 : (f_4 K L false σ).1 = 0 := (ek_0 h5).1
    obtain ⟨sz, d1⟩ := t5 h4
    have eσ : σ = (0, σ.2) := by rw [← sz]
    obtain ⟨d2, d3, d4⟩ := q4 hH
    obtain ⟨d5, d6, d7, d8⟩ := u4 hE
    have e1126 : s11.1 26 = u.1 26 := by rw [e11, c1.2 26 (by decide) (by decide), e1']
    have e226 : s2.1 26 = u.1 26 := by rw [c1.2 26 (by decide) (by decide), e1']
    have no42 : ∀ p i, (WFn G p i ∨ W183 h p i) → noR p := fun p i w => by
      rcases w with w | w
      · exact WFn_no p i w
      · exact W183_no p i w
    -- as it stands at s2
    have fn : FNr K L B s2 G h (s.1 26).toInt (u.1 26).toInt σ.2 := by
      unfold FNr
      rw [← eσ]
      refine ⟨?_, ?_, ?_, ?_⟩
      · have g1 := FNb_fr G3 (fun p _ p2 w => by omega) d1
        have g2 := FNb_fr q3 (fun p p1 _ w => by have := W183_lo w; omega) g1
        exact FNb_fr G42 (fun p _ p2 w => by omega) g2
      · rw [GFx_rd G42 (by omega) (fun w => by omega), GFx_rd q3 (by omega) (fun w => by have := W183_lo w; omega), r3, if_pos ⟨rfl, rfl⟩]
        exact hs
      · have no258 := no1'
        exact HDr_wi hN uN (HDr_fr no258 d3 G42 (Int.le_refl _) (fun p i w q => by have := W183_lo w; omega) d4)
      · refine ⟨(s4.1 26).toInt, (u.1 26).toInt, x12.toInt, by omega, Int.le_refl _, d5, ⟨d6, d7⟩, ?_, ?_⟩
        · rw [c1.1, r1', if_pos ⟨rfl, rfl⟩]
        · have a1 := eT_eq 10 _ _ _ _ d8 (GFx_eRq no1' G1' (Int.le_refl _) d5)
          exact eT_eq 10 _ _ _ _ a1 ⟨fun _ _ _ _ _ => by rw [c1.1], fun _ _ _ _ => by rw [c1.1]⟩
    refine ⟨?_, ?_, ?_, ?_, ?_⟩
    · rw [e1126]
      exact FNr_fr WFe_no hh G11 (by rw [e226]; exact Int.le_refl _) (fun p p1 p2 w => by have := WFe_lo w; omega) (fun p i w q => by have := WFe_lo q; have := W183_lo w; omega) fn
    · rw [e11, c1.2 42 (by decide) (by decide), e1', u3.1 42 (by decide) (by decide) (by decide) (by decide) (by decide), e10 42 (by decide) (by decide) (by decide), d2]
    · rw [r11, if_neg (by omega), if_neg (by omega), if_pos ⟨rfl, rfl⟩, hx6]
    · rw [r11, if_neg (by omega), if_pos ⟨rfl, rfl⟩, hx8]
    · rw [r11, if_pos ⟨rfl, rfl⟩, hx10]
  refine ⟨fun w => ?_, fun w => ?_⟩
  · have hf : ¬ (f_7 K L false σ).1 = 0 := by rw [← Q10.1]; exact w
    refine last (-1) s10 T10 (by rw [pe_f 10 hf]; exact Q10) ⟨fun _ _ _ _ _ _ => rfl, rfl, fun _ _ _ _ => rfl, by rw [e1026]; exact Int.le_refl _⟩ (fun w2 => ?_)
    rw [pe_f 10 hf] at w2
    exact absurd w2 hf
  · refine Par.imp ((x_18 hP d).1 10 _ s10 (by omega) ⟨T10, Q10, by rw [hs10, sfr_1, if_pos rfl]; decide⟩) ?_
    rintro v12 s11 ⟨x13, rfl, c1, c2, c3, c4, c5, c6⟩
    rw [e1026] at c1 c2 c4 c6
    exact ⟨x13, rfl, last x13 s11 c5.1 c5.2.1 c4 (fun hf => ⟨c1, c2, c3, (c6 hf).1⟩)⟩
end RFN
