/-! ===== the reference takes E: frames, lists ===== -/
def nRe (p : Nat) : Prop := nRw p ∨ p = 223
/-- what the taking of an E may write: nodes from N on (what stands behind a node is not told here) -/
def EFx (N : Int) (s s' : yS) : Prop := (∀ k, ¬ k = 7 → ¬ k = 8 → ¬ k = 26 → ¬ k = 27 → ¬ k = 28 → s'.1 k = s.1 k) ∧ s'.2.2 = s.2.2 ∧ (∀ p i : Nat, ¬ p = 228 → (¬ nRe p ∨ (i : Int) < N) → s'.2.1 p i = s.2.1 p i) ∧ N ≤ (s'.1 26).toInt
/-- a list without its closing sign -/
def p_q (K : Int → Int) (f : Bool → RSt → RSt) : Nat → RSt → RSt
  | 0, σ => σ
  | k + 1, σ => if k ≠ 0 ∧ t_k K 44 (f (decide (k = 0)) σ) = true then p_q K f k (a_d (f (decide (k = 0)) σ)) else f (decide (k = 0)) σ
section REL
variable {d : Nat} {K L : Int → Int} {B n N N' : Int} {s s' s'' : yS} {σ : RSt} {a1 x : Int32} {c0 : Int}
theorem pq_s (f : Bool → RSt → RSt) (k : Nat) (σ : RSt) : p_q K f (k + 1) σ = if k ≠ 0 ∧ t_k K 44 (f (decide (k = 0)) σ) = true then p_q K f k (a_d (f (decide (k = 0)) σ)) else f (decide (k = 0)) σ := by rw [p_q]
theorem pq_l {f : Bool → RSt → RSt} : ∀ (k : Nat) (σ : RSt), e_k K L c0 (p_q K f (k + 1) σ) = p_l K L f c0 (k + 1) σ
  | 0, σ => by
    rw [p_q, p_l, if_neg (by simp), if_neg (by simp)]
  | k + 1, σ => by
    rw [p_q, p_l]
    by_cases hc : k + 1 ≠ 0 ∧ t_k K 44 (f (decide (k + 1 = 0)) σ) = true
    · rw [if_pos hc, if_pos hc]
      exact pq_l k _
    · rw [if_neg hc, if_neg hc]
theorem EFx_T (h : TFx N s s') : EFx N s s' := ⟨h.1, h.2.1, fun p i _ w => h.2.2.1 p i (by rcases w with w | w; exact Or.inl (fun q => w (Or.inl q)); exact Or.inr w), h.2.2.2⟩
theorem EFx_tr (hN : N ≤ N') (h : EFx N s s') (g : EFx N' s' s'') : EFx N s s'' := ⟨fun k h1 h2 h3 h4 h5 => (g.1 k h1 h2 h3 h4 h5).trans (h.1 k h1 h2 h3 h4 h5), g.2.1.trans h.2.1, fun p i w0 w => (g.2.2.1 p i w0 (by rcases w with w | w; exact Or.inl w; exact Or.inr (by omega))).trans (h.2.2.1 p i w0 w), by have := g.2.2.2; omega⟩
theorem EFx_78 (h : R78 s s') (hN : N ≤ (s.1 26).toInt) : EFx N s s' := EFx_T (TFx_78 h hN)
theorem EFx_sf {k : Nat} (hk : k = 7 ∨ k = 8 ∨ k = 27 ∨ k = 28) (hN : N ≤ (s.1 26).toInt) : EFx N s (sf s k x) := EFx_T (TFx_sf hk hN)
theorem EFx_sa {p i : Nat} (hi : p = 228 ∨ (nRe p ∧ N ≤ (i : Int))) (hN : N ≤ (s.1 26).toInt) : EFx N s (sa s p i x) := ⟨fun k _ _ _ _ _ => rfl, rfl, fun q j w0 w => by
  rw [sa_21, if_neg (fun e => ?_)]
  rcases hi with hi | hi
  · exact w0 (e.1.trans hi)
  · rcases w with w | w
    · rw [e.1] at w
      exact w hi.1
    · omega, hN⟩
theorem EFx_tk (h : EFx N s s') (g : RTk K L B n s) : RTk K L B n s' := RTk_eq (funext fun i => h.2.2.1 215 i (by decide) (Or.inl (by unfold nRe nRw; omega))) (funext fun i => h.2.2.1 216 i (by decide) (Or.inl (by unfold nRe nRw; omega))) (funext fun i => h.2.2.1 217 i (by decide) (Or.inl (by unfold nRe nRw; omega))) g
theorem eCh_add {f g : Int → Int → Int → Int → Prop} {nx : Int → Int} {c : Nat} {z u w : Nat → Int} {y' w' : Int} (h : eCh s f nx c z u w) (hf : ∀ i, i < c → f (z i) (z (i + 1)) (u i) (w i) → g (z i) (z (i + 1)) (u i) (w i)) (hg : g (z c) y' (u c) w') (hy : 0 ≤ z c ∧ z c ≤ w' ∧ w' < y') (hb : ∀ i, i + 1 < c → s'.2.1 225 (w i).toNat = s.2.1 225 (w i).toNat) (hl : 0 < c → (s'.2.1 225 (w (c - 1)).toNat).toInt = w') (hn : (s'.2.1 225 w'.toNat).toInt = -1) : eCh s' g nx (c + 1) (fun i => if i ≤ c then z i else y') (fun i => if i ≤ c then u i else nx (u c) + 1) (fun i => if i < c then w i else w') := by
  refine ⟨fun i hi => ?_, fun i hi => ?_, fun _ => ?_⟩
  · dsimp only
    rw [if_pos (show i ≤ c by omega), if_pos (show i ≤ c by omega)]
    by_cases e : i = c
    · rw [if_neg (show ¬ i + 1 ≤ c by omega), if_neg (show ¬ i + 1 ≤ c by omega), if_neg (show ¬ i < c by omega), e]
      exact ⟨hg, rfl, hy⟩
    · rw [if_pos (show i + 1 ≤ c by omega), if_pos (show i + 1 ≤ c by omega), if_pos (show i < c by omega)]
      have := h.1 i (by omega)
      exact ⟨hf i (by omega) this.1, this.2⟩
  · dsimp only
    rw [if_pos (show i < c by omega)]
    by_cases e : i + 1 = c
    · have := hl (by omega)
      rw [show c - 1 = i by omega] at this
      rw [this, if_neg (show ¬ i + 1 < c by omega)]
    · rw [if_pos (show i + 1 < c by omega), hb i (by omega)]
      exact h.2.1 i (by omega)
  · dsimp only
    rw [show c + 1 - 1 = c by omega, if_neg (Nat.lt_irrefl _)]
    exact hn
/-- an E one too many -/
theorem pe_b {σ : RSt} : ∀ m : Nat, p_e K L m false (if t_k K 1 σ = true then (5 + 16 * L σ.2, σ.2) else σ) = p_e K L m true σ := by
  intro m
  by_cases hk : t_k K 1 σ = true
  · obtain ⟨k0, k1⟩ := tk_t hk
    have hf : ¬ ((5 + 16 * L σ.2, σ.2) : RSt).1 = 0 := by dsimp only; omega
    have he : e_f K L true σ = (5 + 16 * L σ.2, σ.2) := by
      unfold e_f
      rw [if_pos k0, if_pos k1, if_pos rfl]
    rw [if_pos hk, pe_f m hf]
    cases m with
    | zero => exact he.symm
    | succ m => rw [p_e, he, if_neg (fun w => hf w.1), pps_no (tk_f hf)]
  · rw [if_neg hk]
    have he : e_f K L true σ = e_f K L false σ := by
      unfold e_f
      by_cases h0 : σ.1 = 0
      · have h1 : ¬ K σ.2 = 1 := fun w => hk (decide_eq_true ⟨h0, w⟩)
        rw [if_pos h0, if_neg h1, if_pos h0, if_neg h1]
      · rw [if_neg h0, if_neg h0]
    cases m with
    | zero => rfl
    | succ m => rw [p_e, p_e, he]
theorem pe_t {m : Nat} {σ : RSt} (h : (p_e K L m true σ).1 = 0) : False := by
  rw [← pe_b] at h
  by_cases hk : t_k K 1 σ = true
  · rw [if_pos hk] at h
    have := (pe_fw m _ _ h).1
    dsimp only at this
    omega
  · rw [if_neg hk] at h
    cases m with
    | zero => exact ef_t (show (e_f K L true σ).1 = 0 from h)
    | succ m =>
      rw [p_e] at h
      have h1 := (pps_fw (fun σ h => by
        have := ppo_fw (pt_fw m) (pe_fw m) h
        exact ⟨this.1, by omega⟩) 20 _ h).1
      by_cases hc : (e_f K L false σ).1 = 0 ∧ (K (e_f K L false σ).2 = 123 ∨ K (e_f K L false σ).2 = 91)
      · have := ef_0 hc.1
        exact hk (decide_eq_true ⟨this.1, this.2.1⟩)
      · rw [if_neg hc] at h1
        have := ef_0 h1
        exact hk (decide_eq_true ⟨this.1, this.2.1⟩)
def T175 (K L : Int → Int) (B n : Int) (d : Nat) : Prop := ∀ (m : Nat) (σ : RSt) (s : yS), m ≤ 11 → Rp K L B n m σ s → Par d 175 [.ref 213] s (fun v s' => ∃ r : Int32, v = some (.int r) ∧ 0 ≤ (s.1 26).toInt ∧ (s.1 26).toInt ≤ r.toInt ∧ r.toInt < (s'.1 26).toInt ∧ EFx (s.1 26).toInt s s' ∧ Rp K L B n m (p_e K L m false σ) s' ∧ ((p_e K L m false σ).1 = 0 → eT K L B s' m (s.1 26).toInt (s'.1 26).toInt σ.2 r.toInt ∧ (s'.2.1 225 r.toInt.toNat).toInt = -1))
def T176 (K L : Int → Int) (B n : Int) (d : Nat) : Prop := ∀ (m : Nat) (σ : RSt) (s : yS), m ≤ 11 → Rp K L B n m σ s → Par d 176 [.ref 213] s (fun v s' => ∃ r : Int32, v = some (.int r) ∧ 0 ≤ (s.1 26).toInt ∧ (s.1 26).toInt < (s'.1 26).toInt ∧ EFx (s.1 26).toInt s s' ∧ Rp K L B n m (p_q K (p_e K L m) 7 σ) s' ∧ ((p_q K (p_e K L m) 7 σ).1 = 0 → (s'.1 28).toInt = (p_n K (p_e K L m) 7 σ : Int) ∧ ∃ z u w : Nat → Int, z 0 = (s.1 26).toInt ∧ z (p_n K (p_e K L m) 7 σ) = (s'.1 26).toInt ∧ u 0 = σ.2 ∧ r.toInt = w 0 ∧ eCh s' (eT K L B s' m) (nxE K L) (p_n K (p_e K L m) 7 σ) z u w))
theorem pq_fw {f : Bool → RSt → RSt} (hf : Fw f) : ∀ (k : Nat) (σ : RSt), (p_q K f (k + 1) σ).1 = 0 → σ.1 = 0 ∧ σ.2 < (p_q K f (k + 1) σ).2
  | 0, σ, h => by
    rw [p_q, if_neg (by simp)] at h ⊢
    exact hf _ _ h
  | k + 1, σ, h => by
    rw [p_q] at h ⊢
    by_cases hc : k + 1 ≠ 0 ∧ t_k K 44 (f (decide (k + 1 = 0)) σ) = true
    · rw [if_pos hc] at h ⊢
      have h1 := pq_fw hf k _ h
      have h2 := hf _ _ (tk_t hc.2).1
      exact ⟨h2.1, by have := h1.2; have := h2.2; unfold a_d at *; dsimp only at *; omega⟩
    · rw [if_neg hc] at h ⊢
      exact hf _ _ h
set_option maxHeartbeats 2000000 in
theorem x_176s (ih : T175 K L B n d) (hP : TXp K L n) : T176 K L B n (d + 1) := by
  intro m σ s hm h
  refine pb_176 ?_
  unfold ub_176_0
  refine Par.imp (ih m σ s hm h) ?_
  rintro v1 s1 ⟨x3, rfl, q0, q1, q2, q4, q5, q6⟩
  refine ⟨x3, rfl, ?_⟩
  unfold ubl_176_7
  refine ⟨fun b1 b2 b3 t => b1 = x3 ∧ ∃ (τ : RSt) (c : Nat), b3.toInt = (c : Int) ∧ 1 ≤ c ∧ c ≤ 7 ∧ Rp K L B n m τ t ∧ EFx (s.1 26).toInt s t ∧ (s.1 26).toInt < (t.1 26).toInt ∧ ((s.1 26).toInt ≤ b2.toInt ∧ b2.toInt < (t.1 26).toInt) ∧ (c = 7 → ¬ τ.1 = 0) ∧ (if ¬ c = 7 ∧ t_k K 44 τ = true then p_q K (p_e K L m) (7 - c) (a_d τ) else τ) = p_q K (p_e K L m) 7 σ ∧ (if ¬ c = 7 ∧ t_k K 44 τ = true then p_n K (p_e K L m) (7 - c) (a_d τ) + c else c) = p_n K (p_e K L m) 7 σ ∧ (τ.1 = 0 → ∃ z u w : Nat → Int, z 0 = (s.1 26).toInt ∧ z c = (t.1 26).toInt ∧ u 0 = σ.2 ∧ u c = τ.2 + 1 ∧ w 0 = x3.toInt ∧ b2.toInt = w (c - 1) ∧ eCh t (eT K L B t m) (nxE K L) c z u w), ⟨rfl, p_e K L m false σ, 1, by decide, by omega, by omega, q5, q4, by omega, ⟨q1, q2⟩, by omega, ?_, ?_, fun hf => ?_⟩, ?_⟩
  · have e := pq_s (K := K) (p_e K L m) 6 σ
    rw [decide_eq_false (show ¬ 6 = 0 by decide)] at e
    refine Eq.trans ?_ e.symm
    by_cases hc : t_k K 44 (p_e K L m false σ) = true
    · rw [if_pos ⟨by decide, hc⟩, if_pos ⟨by decide, hc⟩]
    · rw [if_neg (fun w => hc w.2), if_neg (fun w => hc w.2)]
  · have e := pn_s (K := K) (p_e K L m) 6 σ
    rw [decide_eq_false (show ¬ 6 = 0 by decide)] at e
    refine Eq.trans ?_ e.symm
    by_cases hc : t_k K 44 (p_e K L m false σ) = true
    · rw [if_pos ⟨by decide, hc⟩, if_pos ⟨by decide, hc⟩]
    · rw [if_neg (fun w => hc w.2), if_neg (fun w => hc w.2)]
  · obtain ⟨y1, y2⟩ := q6 hf
    have h0 := (pe_fw m _ _ hf).1
    have eS : ((0 : Int), σ.2) = σ := by rw [← h0]
    have hx : nxE K L σ.2 = (p_e K L m false σ).2 := by
      unfold nxE
      rw [eS, pe_mono m 11 (by omega) _ _ hf]
    refine ⟨fun i => if i = 0 then (s.1 26).toInt else (s1.1 26).toInt, fun i => if i = 0 then σ.2 else (p_e K L m false σ).2 + 1, fun _ => x3.toInt, rfl, rfl, rfl, rfl, rfl, rfl, fun i hi => ?_, fun i hi => by omega, fun _ => y2⟩
    have e : i = 0 := by omega
    subst e
    exact ⟨y1, by show (p_e K L m false σ).2 + 1 = nxE K L σ.2 + 1; rw [hx], q0, q1, q2⟩
  · rintro b1 b2 b3 t ⟨hb1, τ, c, g1, g2, g3, g4, g5, g6, g6', g7, g8, g9, g10⟩
    replace hb1 := hb1.symm
    subst hb1
    unfold ub_176_7
    refine Par.imp (x_168 hP g4.1 g4.2.1 (a1 := 44) (by decide)) ?_
    rintro v2 s1' ⟨r1, x3', rfl, hr3⟩
    rw [show (44 : Int32).toInt = 44 by decide] at hr3
    have f26 : s1'.1 26 = t.1 26 := r1.2 26 (by decide) (by decide)
    refine ⟨x3', rfl, fun w => ?_, fun w => ?_⟩
    · rcases hr3 with ⟨y1, -⟩ | ⟨-, y2, y3, -⟩
      · omega
      have hno : ¬ (¬ c = 7 ∧ t_k K 44 τ = true) := fun q => by
        rw [y2] at q
        cases q.2
      rw [if_neg hno] at g8 g9
      intro s6 hs6
      have e6 : s6.1 26 = t.1 26 := by rw [hs6, sfr_1, if_neg (by decide)]; exact f26
      have e62 : s6.2 = t.2 := by rw [hs6, sfr_2, r1.1]
      refine ⟨x3, rfl, q0, by rw [e6]; exact g6, ?_, ⟨RTk_eq (by rw [e62]) (by rw [e62]) (by rw [e62]) g4.1, ?_, ?_⟩, fun hr => ⟨?_, ?_⟩⟩
      · rw [hs6]
        exact EFx_tr (Int.le_refl _) g5 (EFx_tr (Int.le_refl _) (EFx_78 r1 (by omega)) (EFx_sf (Or.inr (Or.inr (Or.inr rfl))) (by rw [f26]; omega)))
      · rw [hs6, ← g8]
        exact ⟨by rw [sfr_1, if_neg (by decide)]; exact y3.1, fun w => by rw [sfr_1, if_neg (by decide)]; exact y3.2 w⟩
      · rw [hs6, sfr_1, if_neg (by decide), r1.2 27 (by decide) (by decide)]
        exact g4.2.2
      · rw [hs6, sfr_1, if_pos rfl, g1, ← g9]
      · rw [← g8] at hr
        obtain ⟨z, u, w, c1, c2, c3, c4, c4', c5, c6⟩ := g10 hr
        rw [← g9]
        exact ⟨z, u, w, c1, by rw [e6]; exact c2, c3, c4'.symm, eCh_eq c6 (fun i _ f => eT_eq m _ _ _ _ f ⟨fun _ _ _ _ _ => by rw [e62], fun _ _ _ _ => by rw [e62]⟩) (fun i _ => by rw [e62])⟩
    · rcases hr3 with ⟨y1, y2, y3⟩ | ⟨y1, -⟩
      · obtain ⟨f0, f1⟩ := tk_t y2
        have hc7 : ¬ c = 7 := fun e => g7 e f0
        rw [if_pos ⟨hc7, y2⟩] at g8 g9
        have T1 := RTk_78 r1 g4.1
        obtain ⟨z, u, w, c1, c2, c3, c4, c4', c5, c6⟩ := g10 f0
        have eAt : a_d τ = (0, u c) := by
          unfold a_d
          rw [f0, c4]
        rw [eAt] at g8 g9 y3
        have nxt : ∀ (t' : yS) (b : Bool), b = decide (c = 6) → R78 t t' → RTk K L B n t' → (∃ ρ : RSt, RQr B n ρ t' ∧ p_e K L m false ρ = p_e K L m b (0, u c) ∧ ((p_e K L m b (0, u c)).1 = 0 → ρ = (0, u c))) → ub_176_22 (Par d) (fun b1 b2 b3 t => b1 = x3 ∧ ∃ (τ : RSt) (c : Nat), b3.toInt = (c : Int) ∧ 1 ≤ c ∧ c ≤ 7 ∧ Rp K L B n m τ t ∧ EFx (s.1 26).toInt s t ∧ (s.1 26).toInt < (t.1 26).toInt ∧ ((s.1 26).toInt ≤ b2.toInt ∧ b2.toInt < (t.1 26).toInt) ∧ (c = 7 → ¬ τ.1 = 0) ∧ (if ¬ c = 7 ∧ t_k K 44 τ = true then p_q K (p_e K L m) (7 - c) (a_d τ) else τ) = p_q K (p_e K L m) 7 σ ∧ (if ¬ c = 7 ∧ t_k K 44 τ = true then p_n K (p_e K L m) (7 - c) (a_d τ) + c else c) = p_n K (p_e K L m) 7 σ ∧ (τ.1 = 0 → ∃ z u w : Nat → Int, z 0 = (s.1 26).toInt ∧ z c = (t.1 26).toInt ∧ u 0 = σ.2 ∧ u c = τ.2 + 1 ∧ w 0 = x3.toInt ∧ b2.toInt = w (c - 1) ∧ eCh t (eT K L B t m) (nxE K L) c z u w)) x3 b2 b3 t' (fun v s' => ∃ r : Int32, v = some (.int r) ∧ 0 ≤ (s.1 26).toInt ∧ (s.1 26).toInt < (s'.1 26).toInt ∧ EFx (s.1 26).toInt s s' ∧ Rp K L B n m (p_q K (p_e K L m) 7 σ) s' ∧ ((p_q K (p_e K L m) 7 σ).1 = 0 → (s'.1 28).toInt = (p_n K (p_e K L m) 7 σ : Int) ∧ ∃ z u w : Nat → Int, z 0 = (s.1 26).toInt ∧ z (p_n K (p_e K L m) 7 σ) = (s'.1 26).toInt ∧ u 0 = σ.2 ∧ r.toInt = w 0 ∧ eCh s' (eT K L B s' m) (nxE K L) (p_n K (p_e K L m) 7 σ) z u w)) := by
          intro t' b hb t1 t2 ⟨ρ, t3, t4, t5⟩
          have h26 : t'.1 26 = t.1 26 := t1.2 26 (by decide) (by decide)
          unfold ub_176_22
          refine Par.imp (ih m ρ t' (by omega) ⟨t2, t3, by rw [t1.2 27 (by decide) (by decide)]; exact g4.2.2⟩) ?_
          rintro v2 s1'' ⟨x4, rfl, j0, j1, j3, j4, j5, j6⟩
          rw [h26] at j0 j1 j4 j6
          rw [t4] at j5 j6
          refine ⟨x4, rfl, fun hb2 s4 hs4 _ x5' hx5 => ?_⟩
          have e4 : s4.1 = s1''.1 := by rw [hs4]; rfl
          have F4 : EFx (t.1 26).toInt t s1'' := EFx_tr (Int.le_refl _) (EFx_78 t1 (Int.le_refl _)) j4
          have hzb : ((b2.toInt.toNat : Nat) : Int) = b2.toInt := Int.toNat_of_nonneg hb2.1
          have r4 : ∀ q j, s4.2.1 q j = if q = 225 ∧ j = b2.toInt.toNat then x4 else s1''.2.1 q j := fun q j => by rw [hs4, sa_21]
          have F4' : EFx (s.1 26).toInt s s4 := by
            refine EFx_tr (Int.le_refl _) g5 (EFx_tr (N' := (s.1 26).toInt) (Int.le_refl _) (s' := s1'') ?_ ?_)
            · exact ⟨F4.1, F4.2.1, fun p i w0 w => F4.2.2.1 p i w0 (by rcases w with w | w; exact Or.inl w; exact Or.inr (by omega)), by have := F4.2.2.2; omega⟩
            · rw [hs4]
              exact EFx_sa (Or.inr ⟨by unfold nRe nRw; omega, by omega⟩) (by omega)
          have T4 : RTk K L B n s4 := RTk_eq (funext fun j => by rw [r4, if_neg (by omega)]) (funext fun j => by rw [r4, if_neg (by omega)]) (funext fun j => by rw [r4, if_neg (by omega)]) j5.1
          have hfuel : 7 - c = (6 - c) + 1 := by omega
          have hbk : b = decide (6 - c = 0) := by
            rw [hb]
            by_cases e : c = 6
            · rw [decide_eq_true e, decide_eq_true (by omega)]
            · rw [decide_eq_false e, decide_eq_false (by omega)]
          refine ⟨rfl, p_e K L m b (0, u c), c + 1, by omega, by omega, by omega, ⟨T4, ⟨by rw [e4]; exact j5.2.1.1, fun w => by rw [e4]; exact j5.2.1.2 w⟩, by rw [e4]; exact j5.2.2⟩, F4', by rw [e4]; omega, ⟨by omega, by rw [e4]; omega⟩, fun e => ?_, ?_, ?_, fun hf => ?_⟩
          · have : b = true := by
              rw [hb]
              exact decide_eq_true (by omega)
            rw [this]
            exact fun hf => pe_t hf
          · rw [← g8, hfuel, p_q, ← hbk]
            by_cases hq : t_k K 44 (p_e K L m b (0, u c)) = true
            · by_cases e : c = 6
              · rw [if_neg (fun w => w.1 (by omega)), if_neg (fun w => w.1 (by omega))]
              · rw [if_pos ⟨by omega, hq⟩, if_pos ⟨by omega, hq⟩, show 7 - (c + 1) = 6 - c by omega]
            · rw [if_neg (fun w => hq w.2), if_neg (fun w => hq w.2)]
          · rw [← g9, hfuel, p_n, ← hbk]
            by_cases hq : t_k K 44 (p_e K L m b (0, u c)) = true
            · by_cases e : c = 6
              · rw [if_neg (fun w => w.1 (by omega)), if_neg (fun w => w.1 (by omega))]
                omega
              · rw [if_pos ⟨by omega, hq⟩, if_pos ⟨by omega, hq⟩, show 7 - (c + 1) = 6 - c by omega]
                omega
            · rw [if_neg (fun w => hq w.2), if_neg (fun w => hq w.2)]
              omega
          · have hρ := t5 hf
            obtain ⟨y1', y2'⟩ := j6 hf
            rw [hρ] at y1'
            dsimp only at y1'
            have hb0 : b = false := by
              cases b with
              | false => rfl
              | true => exact False.elim (pe_t hf)
            have hx : nxE K L (u c) = (p_e K L m b (0, u c)).2 := by
              unfold nxE
              rw [hb0] at hf ⊢
              rw [pe_mono m 11 (by omega) _ _ hf]
            refine ⟨fun i => if i ≤ c then z i else (s1''.1 26).toInt, fun i => if i ≤ c then u i else nxE K L (u c) + 1, fun i => if i < c then w i else x4.toInt, by dsimp only; rw [if_pos (Nat.zero_le _)]; exact c1, by dsimp only; rw [if_neg (by omega), e4], by dsimp only; rw [if_pos (Nat.zero_le _)]; exact c3, by dsimp only; rw [if_neg (by omega), hx], by dsimp only; rw [if_pos (by omega)]; exact c4', by dsimp only; rw [show c + 1 - 1 = c by omega, if_neg (Nat.lt_irrefl _)], ?_⟩
            have zlt : ∀ i, i < c → z i ≤ z (c - 1) ∧ z (i + 1) ≤ (t.1 26).toInt ∧ 0 ≤ z i ∧ z i ≤ w i ∧ w i < z (i + 1) := fun i hi => by
              have a := eCh_mono c6 i (c - 1) (by omega) (by omega)
              have b := eCh_mono c6 (i + 1) c (by omega) (Nat.le_refl _)
              have e := (c6.1 i hi).2.2
              omega
            have same : ∀ p (j : Int), ¬ p = 228 → 0 ≤ j → j < (t.1 26).toInt → ¬ (p = 225 ∧ j = b2.toInt) → s4.2.1 p j.toNat = t.2.1 p j.toNat := fun p j jp j0 j1 hne => by
              rw [r4, if_neg (by omega), F4.2.2.1 p _ jp (Or.inr (by omega))]
            refine eCh_add c6 (fun i hi f => eT_eq m _ _ _ _ f ⟨fun p j hp h1 h2 => ?_, fun j h1 h2 h3 => ?_⟩) ?_ ?_ (fun i hi => ?_) (fun _ => ?_) ?_
            · have := zlt i hi
              exact same p j (by omega) (by omega) (by omega) (by omega)
            · have hz := zlt i hi
              refine same 225 j (by decide) (by omega) (by omega) (fun e => ?_)
              rw [c5] at e
              by_cases el : i = c - 1
              · rw [el] at h3
                exact h3 e.2
              · have := eCh_mono c6 (i + 1) (c - 1) (by omega) (by omega)
                have := zlt (c - 1) (by omega)
                omega
            · rw [c2]
              refine eT_eq m _ _ _ _ y1' ⟨fun p j hp h1 h2 => ?_, fun j h1 h2 h3 => ?_⟩
              · rw [r4, if_neg (by omega)]
              · rw [r4, if_neg (by omega)]
            · rw [c2]
              exact ⟨j0, j1, j3⟩
            · have h1 := zlt i (by omega)
              have h4 := eCh_mono c6 (i + 1) (c - 1) (by omega) (by omega)
              have h5 := zlt (c - 1) (by omega)
              exact same 225 (w i) (by decide) (by omega) (by omega) (by omega)
            · rw [← c5, r4, if_pos ⟨rfl, rfl⟩]
            · rw [r4, if_neg (by omega)]
              exact y2'
        refine ⟨fun h6 => ?_, fun h6 => ?_⟩
        · exact nxt s1' false (by rw [decide_eq_false (by omega)]) r1 T1 ⟨(0, u c), y3, rfl, fun _ => rfl⟩
        · refine Par.imp (x_166 T1 y3) ?_
          rintro v8 s7 ⟨rfl, x9, rfl, hr9⟩
          refine ⟨x9, rfl, fun w9 => ?_, fun w9 => ?_⟩
          · rcases hr9 with ⟨z1, -⟩ | ⟨-, z2⟩
            · omega
            refine nxt s7 true (by rw [decide_eq_true (by omega)]) r1 T1 ⟨(0, u c), y3, ?_, fun _ => rfl⟩
            rw [← pe_b, if_neg (by rw [z2]; decide)]
          · rcases hr9 with ⟨-, z2⟩ | ⟨z1, -⟩
            · refine Par.imp (x_163h T1 y3 (w := 5) (by decide) (by decide) (fun _ => rfl)) ?_
              rintro v11 s10 ⟨rfl, d1, d2, d3⟩
              rw [if_pos rfl] at d3
              have hb' := pe_b (K := K) (L := L) (σ := (0, u c)) m
              rw [if_pos z2] at hb'
              exact ⟨rfl, nxt s10 true (by rw [decide_eq_true (by omega)]) (R78_tr r1 d1) (RTk_78 d1 T1) ⟨_, d3, hb', fun hf => False.elim (pe_t hf)⟩⟩
            · omega
      · omega
end REL
