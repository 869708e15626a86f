/-! ===== behindPoint ===== -/
section REP
variable {d : Nat} {K L : Int → Int} {B n N N' : Int} {s s' s'' : yS} {σ : RSt} {a1 x : Int32} {c0 : Int}
theorem ppo_f {ft f : Bool → RSt → RSt} (h : ¬ σ.1 = 0) : p_po K L ft f σ = σ := by
  unfold p_po
  rw [ek_f h, tk_f h, if_neg (by decide), ek_f h, tk_f h, if_neg (by decide), pvs_f h]
  by_cases hc : K σ.2 = 40
  · rw [if_pos hc]
  · rw [if_neg hc]
def T177 (K L : Int → Int) (B n : Int) (d : Nat) : Prop := ∀ (m : Nat) (σ : RSt) (e0 : Int32) (s : yS), m ≤ 10 → (t_k K 46 σ = true ∨ ¬ σ.1 = 0) → Rp K L B n m σ s → Par d 177 [.ref 213, .int e0] s (fun v s' => ∃ r : Int32, v = some (.int r) ∧ 0 ≤ (s.1 26).toInt ∧ r.toInt = (s.1 26).toInt ∧ (s.1 26).toInt < (s'.1 26).toInt ∧ EFx (s.1 26).toInt s s' ∧ Rp K L B n m (p_po K L (p_t K L m) (p_e K L m) σ) s' ∧ ((p_po K L (p_t K L m) (p_e K L m) σ).1 = 0 → ePt K L B s' m (eT K L B s' m) e0.toInt r.toInt (s'.1 26).toInt σ.2 ∧ (s'.2.1 225 r.toInt.toNat).toInt = -1))
theorem Rp_sf {m k : Nat} {τ : RSt} (h : Rp K L B n m τ s) (hk : ¬ k = 7 ∧ ¬ k = 8 ∧ ¬ k = 27) : Rp K L B n m τ (sf s k x) := ⟨RTk_eq rfl rfl rfl h.1, ⟨by rw [sfr_1, if_neg (by omega)]; exact h.2.1.1, fun w => by rw [sfr_1, if_neg (by omega)]; exact h.2.1.2 w⟩, by rw [sfr_1, if_neg (by omega)]; exact h.2.2⟩
theorem Rp_sa {m p i : Nat} {τ : RSt} (h : Rp K L B n m τ s) (hp : ¬ p = 215 ∧ ¬ p = 216 ∧ ¬ p = 217) : Rp K L B n m τ (sa s p i x) := ⟨RTk_eq (funext fun j => by rw [sa_21, if_neg (by omega)]) (funext fun j => by rw [sa_21, if_neg (by omega)]) (funext fun j => by rw [sa_21, if_neg (by omega)]) h.1, h.2.1, h.2.2⟩
/-- the E in ( ) or { } of node e, behind its opening sign -/
theorem x_args2 (ih6 : T176 K L B n d) (hP : TXp K L n) {m : Nat} (hm : m ≤ 10) {o c : Int} (hoc : (o = 40 ∧ c = 41) ∨ (o = 123 ∧ c = 125)) {cI : Int32} (hcI : cI.toInt = c) {e : Int32} {N : Int} (hN : 0 ≤ N ∧ e.toInt = N) (h1 : Rp K L B n m (e_k K L o σ) s) (hn : N < (s.1 26).toInt) (h24 : (s.2.1 224 N.toNat).toInt = -1) (h26 : (s.2.1 226 N.toNat).toInt = 0) (f0 f1 : yS → Prop) (hf1 : ∀ t, Par d 167 [.ref 213, .int cI] t (fun v t' => v = none ∧ f0 t') → f1 t) (hQ : ∀ t : yS, 0 ≤ N → (s.1 26).toInt ≤ (t.1 26).toInt → EFx N s t → (∀ p (i : Int), ¬ p = 228 → 0 ≤ i → i < (s.1 26).toInt → ¬ ((p = 224 ∨ p = 226) ∧ i = N) → t.2.1 p i.toNat = s.2.1 p i.toNat) → Rp K L B n m (p_vs K L (p_e K L m) o c σ) t → ((p_vs K L (p_e K L m) o c σ).1 = 0 → eAr K L t (eT K L B t m) o c N (s.1 26).toInt (t.1 26).toInt σ.2) → f0 t) : Par d 164 [.ref 213, .int cI] s (fun v4 s3 => ∃ x5, v4 = some (.int x5) ∧ ((¬ (x5.toInt = 0) → f1 s3) ∧ (x5.toInt = 0 → Par d 176 [.ref 213] s3 (fun v7 s6 => ∃ x8, v7 = some (.int x8) ∧ ((0 ≤ e.toInt ∧ e.toInt < 12006) → ∀ s9, s9 = sa s6 224 e.toInt.toNat x8 → ((0 ≤ e.toInt ∧ e.toInt < 12006) → ∀ s10, s10 = sa s9 226 e.toInt.toNat (s9.1 28) → f1 s10)))))) := by
  have hc9 : 9 ≤ cI.toInt := by omega
  refine Par.imp (x_164 h1.1 h1.2.1 hc9) ?_
  rintro v4 s3 ⟨rfl, x5, rfl, hr5⟩
  rw [hcI] at hr5
  refine ⟨x5, rfl, fun w => ?_, fun w => ?_⟩
  · -- nothing in it
    rcases hr5 with ⟨-, y2⟩ | ⟨y1, -⟩
    · refine hf1 _ (Par.imp (x_167 hP h1.1 h1.2.1 hc9) ?_)
      rintro v6 s4 ⟨rfl, q1, q2⟩
      obtain ⟨k0, k1⟩ := tk_t y2
      have hno : ¬ ((e_k K L o σ).1 = 0 ∧ ¬ K (e_k K L o σ).2 = c) := fun q => q.2 k1
      have e4 : s4.1 26 = s3.1 26 := q1.2 26 (by decide) (by decide)
      have e42 : s4.2 = s3.2 := q1.1
      refine ⟨rfl, hQ s4 hN.1 (by rw [e4]; exact Int.le_refl _) (EFx_78 q1 (by omega)) (fun p i _ _ _ _ => by rw [e42]) ?_ (fun hr => ?_)⟩
      · rw [hcI] at q2
        unfold p_vs
        rw [if_neg hno]
        exact Rp_78 h1 q1 q2
      · obtain ⟨g0, g1, g2⟩ := ek_0 k0
        rw [g2] at k1
        unfold eAr
        rw [if_pos k1, e42, e4]
        exact ⟨h24, h26, rfl⟩
    · omega
  · rcases hr5 with ⟨y1, -⟩ | ⟨-, y2⟩
    · omega
    refine Par.imp (ih6 m _ s3 (by omega) h1) ?_
    rintro v7 s6 ⟨x8, rfl, q0, q1, q2, q3, q4⟩
    refine ⟨x8, rfl, fun _ s9 hs9 _ s10 hs10 => ?_⟩
    have hz : ((N.toNat : Nat) : Int) = N := Int.toNat_of_nonneg hN.1
    have e9 : s9.1 = s6.1 := by rw [hs9]; rfl
    have e10 : s10.1 = s6.1 := by rw [hs10, ← e9]; rfl
    rw [hN.2] at hs9 hs10
    rw [e9] at hs10
    have r10 : ∀ q j, s10.2.1 q j = if q = 226 ∧ j = N.toNat then s6.1 28 else if q = 224 ∧ j = N.toNat then x8 else s6.2.1 q j := fun q j => by rw [hs10, sa_21, hs9, sa_21]
    have h10 : Rp K L B n m (p_q K (p_e K L m) 7 (e_k K L o σ)) s10 := by
      rw [hs10]
      refine Rp_sa ?_ (by omega)
      rw [hs9]
      exact Rp_sa q3 (by omega)
    have F10 : EFx N s3 s10 := by
      have f6 : EFx N s3 s6 := ⟨q2.1, q2.2.1, fun p i w0 w => q2.2.2.1 p i w0 (by rcases w with w | w; exact Or.inl w; exact Or.inr (by omega)), by have := q2.2.2.2; omega⟩
      rw [hs10]
      refine EFx_tr (Int.le_refl _) f6 (EFx_tr (Int.le_refl _) (s' := s9) ?_ (EFx_sa (Or.inr ⟨by unfold nRe nRw; omega, by omega⟩) (by rw [e9]; omega)))
      rw [hs9]
      exact EFx_sa (Or.inr ⟨by unfold nRe nRw; omega, by omega⟩) (by omega)
    refine hf1 _ (Par.imp (x_167 hP h10.1 h10.2.1 hc9) ?_)
    rintro v11 s11 ⟨rfl, w1, w2⟩
    rw [hcI] at w2
    have e11 : s11.1 26 = s6.1 26 := by rw [w1.2 26 (by decide) (by decide), e10]
    have old : ∀ p (i : Int), ¬ p = 228 → 0 ≤ i → i < (s3.1 26).toInt → ¬ ((p = 224 ∨ p = 226) ∧ i = N) → s11.2.1 p i.toNat = s3.2.1 p i.toNat := fun p i hp i0 i1 hne => by
      rw [w1.1, r10, if_neg (by omega), if_neg (by omega), q2.2.2.1 p _ hp (Or.inr (by omega))]
    have hve : (e_k K L c (p_q K (p_e K L m) 7 (e_k K L o σ))) = p_l K L (p_e K L m) c 7 (e_k K L o σ) := pq_l 6 _
    -- with a fault ahead of it nothing is passed
    have hcase : (e_k K L o σ).1 = 0 ∧ ¬ K (e_k K L o σ).2 = c ∨ ¬ (e_k K L o σ).1 = 0 := by
      by_cases h0 : (e_k K L o σ).1 = 0
      · left
        exact ⟨h0, fun q => by rw [show t_k K c (e_k K L o σ) = true from decide_eq_true ⟨h0, q⟩] at y2; cases y2⟩
      · exact Or.inr h0
    have hval : p_vs K L (p_e K L m) o c σ = p_l K L (p_e K L m) c 7 (e_k K L o σ) := by
      unfold p_vs
      rcases hcase with hc | hc
      · rw [if_pos hc]
      · rw [if_neg (fun q => hc q.1), ek_f hc, pl_f (fun b => pe_f m hc) hc 7]
    refine ⟨rfl, hQ s11 hN.1 (by rw [e11]; omega) (EFx_tr (Int.le_refl _) F10 (EFx_78 w1 (by rw [e10]; omega))) old ?_ (fun hr => ?_)⟩
    · rw [hval, ← hve]
      exact Rp_78 h10 w1 w2
    · rw [hval, ← hve] at hr
      obtain ⟨z1, -, -⟩ := ek_0 hr
      obtain ⟨z2, z, u, w, c1, c2, c3, c4, c5⟩ := q4 z1
      have k0 := (pq_fw (pe_fw m) 6 _ z1).1
      obtain ⟨g0, g1, g2⟩ := ek_0 k0
      have hk : ¬ K (σ.2 + 1) = c := fun q => by
        rcases hcase with hc | hc
        · rw [g2] at hc
          exact hc.2 q
        · exact hc k0
      have hsg : ((0 : Int), σ.2) = σ := by rw [← g0]
      have hcnt : p_vn K L (p_e K L 11) o c (0, σ.2) = p_n K (p_e K L m) 7 (e_k K L o σ) := by
        rw [hsg, (pvs_mono (pe_mono m 11 (by omega)) (by rw [hval, ← hve]; exact hr)).2]
        unfold p_vn
        rcases hcase with hc | hc
        · rw [if_pos hc]
        · exact absurd k0 hc
      unfold eAr
      rw [if_neg hk, hcnt, w1.1]
      refine ⟨by rw [r10, if_pos ⟨rfl, rfl⟩]; exact z2, z, u, w, by rw [c1], by rw [e11]; exact c2, by rw [c3, g2], by rw [r10, if_neg (by omega), if_pos ⟨rfl, rfl⟩]; exact c4, ?_⟩
      have mo := eCh_mono c5
      refine eCh_eq c5 (fun i hi f => eT_eq m _ _ _ _ f ⟨fun p j hp j1 j2 => ?_, fun j j1 j2 j3 => ?_⟩) (fun i hi => ?_)
      · have a := mo 0 i (by omega) (by omega)
        rw [w1.1, r10, if_neg (by omega), if_neg (by omega)]
      · rw [w1.1, r10, if_neg (by omega), if_neg (by omega)]
      · rw [w1.1, r10, if_neg (by omega), if_neg (by omega)]
/-- from its opening sign on -/
theorem x_args (ih6 : T176 K L B n d) (hP : TXp K L n) {m : Nat} (hm : m ≤ 10) {o c : Int} (hoc : (o = 40 ∧ c = 41) ∨ (o = 123 ∧ c = 125)) {oI cI : Int32} (hoI : oI.toInt = o) (hcI : cI.toInt = c) {e : Int32} {N : Int} (hN : 0 ≤ N ∧ e.toInt = N) (h : Rp K L B n m σ s) (hn : N < (s.1 26).toInt) (h24 : (s.2.1 224 N.toNat).toInt = -1) (h26 : (s.2.1 226 N.toNat).toInt = 0) (f0 f1 : yS → Prop) (hf1 : ∀ t, Par d 167 [.ref 213, .int cI] t (fun v t' => v = none ∧ f0 t') → f1 t) (hQ : ∀ t : yS, 0 ≤ N → (s.1 26).toInt ≤ (t.1 26).toInt → EFx N s t → (∀ p (i : Int), ¬ p = 228 → 0 ≤ i → i < (s.1 26).toInt → ¬ ((p = 224 ∨ p = 226) ∧ i = N) → t.2.1 p i.toNat = s.2.1 p i.toNat) → Rp K L B n m (p_vs K L (p_e K L m) o c σ) t → ((p_vs K L (p_e K L m) o c σ).1 = 0 → eAr K L t (eT K L B t m) o c N (s.1 26).toInt (t.1 26).toInt σ.2) → f0 t) : Par d 167 [.ref 213, .int oI] s (fun v2 s1 => v2 = none ∧ Par d 164 [.ref 213, .int cI] s1 (fun v4 s3 => ∃ x5, v4 = some (.int x5) ∧ ((¬ (x5.toInt = 0) → f1 s3) ∧ (x5.toInt = 0 → Par d 176 [.ref 213] s3 (fun v7 s6 => ∃ x8, v7 = some (.int x8) ∧ ((0 ≤ e.toInt ∧ e.toInt < 12006) → ∀ s9, s9 = sa s6 224 e.toInt.toNat x8 → ((0 ≤ e.toInt ∧ e.toInt < 12006) → ∀ s10, s10 = sa s9 226 e.toInt.toNat (s9.1 28) → f1 s10))))))) := by
  refine Par.imp (x_167 hP h.1 h.2.1 (show 9 ≤ oI.toInt by omega)) ?_
  rintro v2 s1 ⟨rfl, p1, p2⟩
  rw [hoI] at p2
  have e26 : s1.1 26 = s.1 26 := p1.2 26 (by decide) (by decide)
  refine ⟨rfl, x_args2 ih6 hP hm hoc hcI hN (Rp_78 h p1 p2) (by rw [e26]; exact hn) (by rw [p1.1]; exact h24) (by rw [p1.1]; exact h26) f0 f1 hf1 (fun t t0 t1 t2 t3 t4 t5 => hQ t t0 (by rw [e26] at t1; exact t1) (EFx_tr (Int.le_refl _) (EFx_78 p1 (by omega)) t2) (fun p i i0 i1 i2 i3 => ?_) t4 (fun w => ?_))⟩
  · rw [t3 p i i0 i1 (by rw [e26]; exact i2) i3, p1.1]
  · have := t5 w
    rw [e26] at this
    exact this
end REP
