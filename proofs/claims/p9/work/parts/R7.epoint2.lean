/-! ===== behindPoint: the whole ===== -/
section REP2
variable {d : Nat} {K L : Int → Int} {B n : Int} {s s' s'' t : yS} {σ τ : RSt} {a1 x : Int32} {c0 : Int}
/-- a node behind a point -/
def nPt (N k e0 pt tk : Int) (s : yS) : Prop := (s.2.1 221 N.toNat).toInt = k ∧ (s.2.1 222 N.toNat).toInt = tk ∧ (s.2.1 223 N.toNat).toInt = pt ∧ (s.2.1 224 N.toNat).toInt = -1 ∧ (s.2.1 225 N.toNat).toInt = -1 ∧ (s.2.1 226 N.toNat).toInt = 0 ∧ (s.2.1 227 N.toNat).toInt = e0 ∧ (s.2.1 229 N.toNat).toInt = -1 ∧ (s.2.1 230 N.toNat).toInt = 0
theorem x_node {m : Nat} {k e0 pt : Int32} {Q : Int32 → yS → Prop} (h : Rp K L B n m τ t) (hQ : ∀ (x3 : Int32) (u : yS), 0 ≤ (t.1 26).toInt → x3.toInt = (t.1 26).toInt → (u.1 26).toInt = (t.1 26).toInt + 1 → EFx (t.1 26).toInt t u → Rp K L B n m τ u → u.1 7 = t.1 7 → nPt (t.1 26).toInt k.toInt e0.toInt pt.toInt (t.1 7).toInt u → Q x3 u) : Par d 171 [.ref 213, .int k] t (fun v2 s1 => ∃ x3, v2 = some (.int x3) ∧ ((0 ≤ x3.toInt ∧ x3.toInt < 12006) → ∀ s4, s4 = sa s1 227 x3.toInt.toNat e0 → ((0 ≤ e0.toInt ∧ e0.toInt < 12006) → ∀ s5, s5 = sa s4 228 e0.toInt.toNat x3 → ((0 ≤ x3.toInt ∧ x3.toInt < 12006) → ∀ s6, s6 = sa s5 223 x3.toInt.toNat pt → Q x3 s6)))) := by
  refine Par.imp x_171 ?_
  rintro v2 s1 ⟨x3, rfl, q1, q2, q3, q4, q5, q6, q7, q8⟩
  refine ⟨x3, rfl, fun _ s4 hs4 _ s5 hs5 _ s6 hs6 => ?_⟩
  have hz : (((t.1 26).toInt.toNat : Nat) : Int) = (t.1 26).toInt := Int.toNat_of_nonneg q2
  rw [q1] at hs4 hs6
  have e6 : s6.1 = s1.1 := by rw [hs6, hs5, hs4]; rfl
  have r6 : ∀ q j, s6.2.1 q j = if q = 223 ∧ j = (t.1 26).toInt.toNat then pt else if q = 228 ∧ j = e0.toInt.toNat then x3 else if q = 227 ∧ j = (t.1 26).toInt.toNat then e0 else s1.2.1 q j := fun q j => by rw [hs6, sa_21, hs5, sa_21, hs4, sa_21]
  have o6 : ∀ q, ¬ q = 223 → ¬ q = 228 → ¬ q = 227 → ∀ j, s6.2.1 q j = s1.2.1 q j := fun q h1 h2 h3 j => by rw [r6, if_neg (fun w => h1 w.1), if_neg (fun w => h2 w.1), if_neg (fun w => h3 w.1)]
  refine hQ x3 s6 q2 q1 (by rw [e6]; exact q3) ?_ ?_ (by rw [e6]; exact q5) ?_
  · have f1 := EFx_T q4
    refine EFx_tr (Int.le_refl _) f1 ?_
    rw [hs6]
    refine EFx_tr (Int.le_refl _) (s' := s5) ?_ (EFx_sa (Or.inr ⟨Or.inr rfl, by omega⟩) (by rw [hs5, hs4]; show _ ≤ (s1.1 26).toInt; omega))
    rw [hs5]
    refine EFx_tr (Int.le_refl _) (s' := s4) ?_ (EFx_sa (Or.inl rfl) (by rw [hs4]; show _ ≤ (s1.1 26).toInt; omega))
    rw [hs4]
    exact EFx_sa (Or.inr ⟨by unfold nRe nRw; omega, by omega⟩) (by omega)
  · refine ⟨RTk_eq (funext fun j => o6 215 (by decide) (by decide) (by decide) j) (funext fun j => o6 216 (by decide) (by decide) (by decide) j) (funext fun j => o6 217 (by decide) (by decide) (by decide) j) (TFx_tk q4 h.1), ⟨by rw [e6, q6]; exact h.2.1.1, fun w => by rw [e6, q5]; exact h.2.1.2 w⟩, by rw [e6, q7]; exact h.2.2⟩
  · obtain ⟨n1, n2, n3, n4, n5, n6, n7, n8, n9⟩ := q8
    refine ⟨by rw [o6 221 (by decide) (by decide) (by decide)]; exact n1, by rw [o6 222 (by decide) (by decide) (by decide), n2], by rw [r6, if_pos ⟨rfl, rfl⟩], by rw [o6 224 (by decide) (by decide) (by decide)]; exact n3, by rw [o6 225 (by decide) (by decide) (by decide)]; exact n4, by rw [o6 226 (by decide) (by decide) (by decide)]; exact n5, by rw [r6, if_neg (by omega), if_neg (by omega), if_pos ⟨rfl, rfl⟩], by rw [o6 229 (by decide) (by decide) (by decide)]; exact n8, by rw [o6 230 (by decide) (by decide) (by decide)]; exact n9⟩
set_option maxHeartbeats 4000000 in
theorem x_177s (ih3 : T173 K L B n d) (ih4 : T174 K L B n d) (ih6 : T176 K L B n d) (hP : TXp K L n) : T177 K L B n (d + 1) := by
  intro m σ e0 s hm hk h
  refine pb_177 ?_
  unfold ub_177_0
  intro _ x1 hx1 s2 hs2
  have R2 : R78 s s2 := by rw [hs2]; exact R78_7
  have e262 : s2.1 26 = s.1 26 := R2.2 26 (by decide) (by decide)
  have Q2 : RQr B n (e_k K L 46 σ) s2 := by
    rw [hs2]
    rcases hk with hk | hk
    · obtain ⟨k0, k1⟩ := tk_t hk
      have := RQ_ad hP h.2.1 (by rw [k1]; decide) hx1
      rw [ek_y k0 k1]
      unfold a_d at this
      rw [k0] at this
      exact this
    · rw [ek_f hk]
      exact RQ_7f h.2.1 hk
  have h2 := Rp_78 h R2 Q2
  refine Par.imp (x_168 hP h2.1 h2.2.1 (a1 := 40) (by decide)) ?_
  rintro v4 s3 ⟨r3, x5, rfl, hr5⟩
  rw [show (40 : Int32).toInt = 40 by decide] at hr5
  have R3 : R78 s s3 := R78_tr R2 r3
  have e263 : s3.1 26 = s.1 26 := R3.2 26 (by decide) (by decide)
  have F3 : EFx (s.1 26).toInt s s3 := EFx_78 R3 (Int.le_refl _)
  refine ⟨x5, rfl, fun w5 => ?_, fun w5 => ?_⟩
  · -- a name
    rcases hr5 with ⟨y1, -⟩ | ⟨-, n40, y3, y4⟩
    · omega
    have h3 := Rp_78 h R3 y3
    have n40' : ¬ t_k K 40 (e_k K L 46 σ) = true := by rw [n40]; decide
    -- from the look at the token behind the name on
    have look : ∀ t : yS, R78 s t → t.1 7 = s3.1 7 → RQr B n (w_f K L false (e_k K L 46 σ)) t → ub_177_53 (Par d) e0 (s.1 7) t (fun v s' => ∃ r : Int32, v = some (.int r) ∧ 0 ≤ (s.1 26).toInt ∧ r.toInt = (s.1 26).toInt ∧ (s.1 26).toInt < (s'.1 26).toInt ∧ EFx (s.1 26).toInt s s' ∧ Rp K L B n m (p_po K L (p_t K L m) (p_e K L m) σ) s' ∧ ((p_po K L (p_t K L m) (p_e K L m) σ).1 = 0 → ePt K L B s' m (eT K L B s' m) e0.toInt r.toInt (s'.1 26).toInt σ.2 ∧ (s'.2.1 225 r.toInt.toNat).toInt = -1)) := by
      intro t t1 t2 t3
      have ht := Rp_78 h t1 t3
      have e26t : t.1 26 = s.1 26 := t1.2 26 (by decide) (by decide)
      -- the node, and one token on
      have mk : ∀ (isM : Int32) (kd : Int32), (isM.toInt = 0 → kd.toInt = 3 ∧ ¬ ((w_f K L false (e_k K L 46 σ)).1 = 0 ∧ (K (σ.2 + 2) = 40 ∨ K (σ.2 + 2) = 91))) → (¬ isM.toInt = 0 → kd.toInt = 4 ∧ (w_f K L false (e_k K L 46 σ)).1 = 0 ∧ (K (σ.2 + 2) = 40 ∨ K (σ.2 + 2) = 91)) → ub_177_93 (Par d) e0 (s.1 7) isM kd t (fun v s' => ∃ r : Int32, v = some (.int r) ∧ 0 ≤ (s.1 26).toInt ∧ r.toInt = (s.1 26).toInt ∧ (s.1 26).toInt < (s'.1 26).toInt ∧ EFx (s.1 26).toInt s s' ∧ Rp K L B n m (p_po K L (p_t K L m) (p_e K L m) σ) s' ∧ ((p_po K L (p_t K L m) (p_e K L m) σ).1 = 0 → ePt K L B s' m (eT K L B s' m) e0.toInt r.toInt (s'.1 26).toInt σ.2 ∧ (s'.2.1 225 r.toInt.toNat).toInt = -1)) := by
        intro isM kd hno hyes
        unfold ub_177_93
        refine x_node (Q := fun x3 s6 => (-2147483648 ≤ (s6.1 7).toInt + 1 ∧ (s6.1 7).toInt + 1 ≤ 2147483647) → _) ht (fun x3 u u0 u1 u2 u3 u4 u5 u6 => ?_)
        rw [e26t] at u0 u1 u2 u3 u6
        intro _ x7 hx7 s8 hs8
        have e8 : s8.1 26 = u.1 26 := by rw [hs8, sfr_1, if_neg (by decide)]
        have e82 : s8.2 = u.2 := by rw [hs8, sfr_2]
        have F8 : EFx (s.1 26).toInt s s8 := by
          rw [hs8]
          exact EFx_tr (Int.le_refl _) (EFx_78 t1 (Int.le_refl _)) (EFx_tr (Int.le_refl _) u3 (EFx_sf (Or.inl rfl) (by omega)))
        -- where it stands: behind the name
        have Q8 : RQr B n (e_k K L 1 (e_k K L 46 σ)) s8 := by
          have u8 := u4.2.1
          rw [hs8]
          unfold w_f at u8
          generalize e_k K L 46 σ = ρ at u8 ⊢
          unfold e_k
          by_cases h0 : ρ.1 = 0
          · rw [if_pos h0] at u8 ⊢
            by_cases h1 : K ρ.2 = 1
            · rw [if_pos h1, if_neg (by decide)] at u8
              rw [if_pos h1]
              have := RQ_ad hP u8 (by rw [h1]; decide) hx7
              unfold a_d at this
              rw [h0] at this
              exact this
            · rw [if_neg h1] at u8 ⊢
              exact RQ_7f u8 (by dsimp only; omega)
          · rw [if_neg h0] at u8 ⊢
            exact RQ_7f u8 h0
        have h8 : Rp K L B n m (e_k K L 1 (e_k K L 46 σ)) s8 := ⟨by rw [hs8]; exact RTk_eq rfl rfl rfl u4.1, Q8, by rw [hs8, sfr_1, if_neg (by decide)]; exact u4.2.2⟩
        have N8 : nPt (s.1 26).toInt kd.toInt e0.toInt (s.1 7).toInt (t.1 7).toInt s8 := by
          unfold nPt at u6 ⊢
          rw [e82]
          exact u6
        -- without a fault: the tokens
        have nof : (e_k K L 1 (e_k K L 46 σ)).1 = 0 → σ.1 = 0 ∧ K σ.2 = 46 ∧ K (σ.2 + 1) = 1 ∧ e_k K L 1 (e_k K L 46 σ) = (0, σ.2 + 2) ∧ (w_f K L false (e_k K L 46 σ)).1 = 0 ∧ (s.1 7).toInt = B + σ.2 ∧ (t.1 7).toInt = B + (σ.2 + 1) := by
          intro hf
          obtain ⟨f1, f2, f3⟩ := ek_0 hf
          obtain ⟨g1, g2, g3⟩ := ek_0 f1
          rw [g3] at f2 f3
          dsimp only at f2 f3
          have hw : w_f K L false (e_k K L 46 σ) = (0, σ.2 + 1) := by
            rw [g3]
            unfold w_f
            dsimp only
            rw [if_pos rfl, if_pos f2, if_neg (by decide)]
          refine ⟨g1, g2, f2, by rw [g3, f3]; rw [show σ.2 + 1 + 1 = σ.2 + 2 by omega], by rw [hw], (h.2.1.2 g1).1, ?_⟩
          have := (t3.2 (by rw [hw])).1
          rw [hw] at this
          exact this
        have hpo : ∀ f : Bool → RSt → RSt, p_po K L (p_t K L m) f σ = if t_k K 91 (e_k K L 1 (e_k K L 46 σ)) = true then p_vs K L f 40 41 (p_l K L (p_t K L m) 93 7 (a_d (e_k K L 1 (e_k K L 46 σ)))) else if K (e_k K L 1 (e_k K L 46 σ)).2 = 40 then p_vs K L f 40 41 (e_k K L 1 (e_k K L 46 σ)) else e_k K L 1 (e_k K L 46 σ) := fun f => by
          unfold p_po
          rw [if_neg n40']
        refine ⟨fun wM => ?_, fun wM => ?_⟩
        · -- a FIELD, or a fault
          unfold ub_177_160
          obtain ⟨d1, d2⟩ := hno wM
          have hres : p_po K L (p_t K L m) (p_e K L m) σ = e_k K L 1 (e_k K L 46 σ) := by
            rw [hpo]
            by_cases hf : (e_k K L 1 (e_k K L 46 σ)).1 = 0
            · obtain ⟨f1, f2, f3, f4, f5, -, -⟩ := nof hf
              have k9 : ¬ t_k K 91 (e_k K L 1 (e_k K L 46 σ)) = true := fun q => d2 ⟨f5, Or.inr (by have := (tk_t q).2; rw [f4] at this; exact this)⟩
              have k4 : ¬ K (e_k K L 1 (e_k K L 46 σ)).2 = 40 := fun q => d2 ⟨f5, Or.inl (by rw [f4] at q; exact q)⟩
              rw [if_neg k9, if_neg k4]
            · rw [tk_f hf, if_neg (by decide), pvs_f hf]
              by_cases k4 : K (e_k K L 1 (e_k K L 46 σ)).2 = 40
              · rw [if_pos k4]
              · rw [if_neg k4]
          rw [hres]
          refine ⟨x3, rfl, u0, u1, by rw [e8]; omega, F8, h8, fun hf => ?_⟩
          obtain ⟨f1, f2, f3, f4, f5, f6, f7⟩ := nof hf
          obtain ⟨n1, n2, n3, n4, n5, n6, n7, n8, n9⟩ := N8
          rw [u1]
          refine ⟨⟨⟨u0, by rw [e8]; omega⟩, n7, by rw [n3, f6], ?_⟩, n5⟩
          have k40 : ¬ K (σ.2 + 1) = 40 := by rw [f3]; decide
          have k9 : ¬ K (σ.2 + 2) = 91 := fun q => d2 ⟨f5, Or.inr q⟩
          have k4 : ¬ K (σ.2 + 2) = 40 := fun q => d2 ⟨f5, Or.inl q⟩
          rw [if_neg k40, if_neg k9, if_neg k4]
          exact ⟨by rw [n2, f7], by rw [n1, d1], by rw [e8]; exact u2⟩
        · -- a METHOD
          obtain ⟨d1, d2, d3⟩ := hyes wM
          have hf : (e_k K L 1 (e_k K L 46 σ)).1 = 0 := by
            unfold w_f at d2
            unfold e_k at d2 ⊢
            grind
          obtain ⟨f1, f2, f3, f4, f5, f6, f7⟩ := nof hf
          rw [f4] at h8 hpo
          dsimp only at hpo
          have h8' := h8
          refine Par.imp (x_164 h8.1 h8.2.1 (a1 := 91) (by decide)) ?_
          rintro v10 s9 ⟨rfl, x11, rfl, hr11⟩
          rw [show (91 : Int32).toInt = 91 by decide] at hr11
          obtain ⟨n1, n2, n3, n4, n5, n6, n7, n8, n9⟩ := N8
          have k40 : ¬ K (σ.2 + 1) = 40 := by rw [f3]; decide
          -- the E in ( ): t' stands at (
          have rest : ∀ (t' : yS) (ρ : RSt), Rp K L B n m ρ t' → (s.1 26).toInt < (t'.1 26).toInt → EFx (s.1 26).toInt s t' → (∀ p, (p = 221 ∨ p = 222 ∨ p = 223 ∨ p = 224 ∨ p = 225 ∨ p = 226 ∨ p = 227) → t'.2.1 p (s.1 26).toInt.toNat = s9.2.1 p (s.1 26).toInt.toNat) → p_po K L (p_t K L m) (p_e K L m) σ = p_vs K L (p_e K L m) 40 41 ρ → (∀ u' : yS, (t'.1 26).toInt ≤ (u'.1 26).toInt → (∀ p (i : Int), ¬ p = 228 → 0 ≤ i → i < (t'.1 26).toInt → ¬ ((p = 224 ∨ p = 226) ∧ i = (s.1 26).toInt) → u'.2.1 p i.toNat = t'.2.1 p i.toNat) → ρ.1 = 0 → eAr K L u' (eT K L B u' m) 40 41 (s.1 26).toInt (t'.1 26).toInt (u'.1 26).toInt ρ.2 → (if K (σ.2 + 2) = 91 then (u'.2.1 221 (s.1 26).toInt.toNat).toInt = 4 ∧ (u'.2.1 229 (s.1 26).toInt.toNat).toInt = (s.1 26).toInt + 1 ∧ (u'.2.1 230 (s.1 26).toInt.toNat).toInt = (NT K L (σ.2 + 2) : Int) ∧ ∃ y1, y1 ≤ (u'.1 26).toInt ∧ ych u' (yT K L B u' m) (nxT K L) (NT K L (σ.2 + 2)) ((s.1 26).toInt + 1) y1 (σ.2 + 3) ∧ eAr K L u' (eT K L B u' m) 40 41 (s.1 26).toInt y1 (u'.1 26).toInt (mO K L (σ.2 + 1)).2 else if K (σ.2 + 2) = 40 then (u'.2.1 221 (s.1 26).toInt.toNat).toInt = 4 ∧ (u'.2.1 229 (s.1 26).toInt.toNat).toInt = -1 ∧ (u'.2.1 230 (s.1 26).toInt.toNat).toInt = 0 ∧ eAr K L u' (eT K L B u' m) 40 41 (s.1 26).toInt ((s.1 26).toInt + 1) (u'.1 26).toInt (σ.2 + 2) else (u'.2.1 221 (s.1 26).toInt.toNat).toInt = 3 ∧ (u'.1 26).toInt = (s.1 26).toInt + 1)) → ub_177_136 (Par d) e0 (s.1 7) isM x3 t' (fun v s' => ∃ r : Int32, v = some (.int r) ∧ 0 ≤ (s.1 26).toInt ∧ r.toInt = (s.1 26).toInt ∧ (s.1 26).toInt < (s'.1 26).toInt ∧ EFx (s.1 26).toInt s s' ∧ Rp K L B n m (p_po K L (p_t K L m) (p_e K L m) σ) s' ∧ ((p_po K L (p_t K L m) (p_e K L m) σ).1 = 0 → ePt K L B s' m (eT K L B s' m) e0.toInt r.toInt (s'.1 26).toInt σ.2 ∧ (s'.2.1 225 r.toInt.toNat).toInt = -1)) := by
            intro t' ρ z1 z2 z3 z4 z5 z6
            unfold ub_177_136
            refine x_args ih6 hP hm (Or.inl ⟨rfl, rfl⟩) (by decide) (by decide) (N := (s.1 26).toInt) ⟨u0, u1⟩ z1 z2 (by rw [z4 224 (by omega)]; exact n4) (by rw [z4 226 (by omega)]; exact n6) (fun t'' => ub_177_160 (Par d) e0 (s.1 7) isM x3 t'' _) _ (fun t'' ht => ht) (fun u' v0 v1 v2 v3 v4 v5 => ?_)
            unfold ub_177_160
            rw [z5]
            refine ⟨x3, rfl, u0, u1, by omega, EFx_tr (Int.le_refl _) z3 v2, v4, fun hr => ?_⟩
            have hρ := (pvs_fw (pe_fw m) hr).1
            have hrow : ∀ p, (p = 221 ∨ p = 222 ∨ p = 223 ∨ p = 225 ∨ p = 227) → u'.2.1 p (s.1 26).toInt.toNat = s9.2.1 p (s.1 26).toInt.toNat := fun p hp => by
              rw [v3 p (s.1 26).toInt (by omega) u0 z2 (by omega), z4 p (by omega)]
            rw [u1]
            refine ⟨⟨⟨u0, by omega⟩, by rw [hrow 227 (by omega)]; exact n7, by rw [hrow 223 (by omega), n3, f6], ?_⟩, by rw [hrow 225 (by omega)]; exact n5⟩
            rw [if_neg k40]
            exact ⟨by rw [hrow 222 (by omega), n2, f7], z6 u' v1 v3 hρ (v5 hr)⟩
          refine ⟨x11, rfl, fun w11 => ?_, fun w11 => ?_⟩
          · -- no TYPES
            rcases hr11 with ⟨y1', -⟩ | ⟨-, y2'⟩
            · omega
            have k9 : ¬ K (σ.2 + 2) = 91 := fun q => by rw [show t_k K 91 (0, σ.2 + 2) = true from decide_eq_true ⟨rfl, q⟩] at y2'; cases y2'
            have k4 : K (σ.2 + 2) = 40 := by
              rcases d3 with d3 | d3
              · exact d3
              · exact absurd d3 k9
            refine rest s9 (0, σ.2 + 2) h8 (by rw [e8]; omega) F8 (fun p _ => rfl) ?_ (fun u' v1 v2 _ v4 => ?_)
            · rw [hpo, if_neg (by rw [y2']; decide), if_pos k4]
            · rw [if_neg k9, if_pos k4]
              have hrow : ∀ p, (p = 221 ∨ p = 229 ∨ p = 230) → u'.2.1 p (s.1 26).toInt.toNat = s9.2.1 p (s.1 26).toInt.toNat := fun p hp => v2 p (s.1 26).toInt (by omega) u0 (by rw [e8]; omega) (by omega)
              refine ⟨by rw [hrow 221 (by omega), n1, d1], by rw [hrow 229 (by omega)]; exact n8, by rw [hrow 230 (by omega)]; exact n9, ?_⟩
              rw [e8, u2] at v4
              exact v4
          · -- TYPES
            rcases hr11 with ⟨-, y2'⟩ | ⟨y1', -⟩
            · have k9 : K (σ.2 + 2) = 91 := (tk_t y2').2
              refine Par.imp (ih4 m _ s9 hm y2' h8) ?_
              rintro v13 s12 ⟨x14, rfl, j1, j2, j3, j4, j5, j6⟩
              rw [e8, u2] at j1 j2 j3 j4 j6
              refine ⟨x14, rfl, fun _ s15 hs15 _ s16 hs16 => ?_⟩
              have hz : (((s.1 26).toInt.toNat : Nat) : Int) = (s.1 26).toInt := Int.toNat_of_nonneg u0
              have e15 : s15.1 = s12.1 := by rw [hs15]; rfl
              have e16 : s16.1 = s12.1 := by rw [hs16, ← e15]; rfl
              rw [u1] at hs15 hs16
              rw [e15] at hs16
              have r16 : ∀ q j, s16.2.1 q j = if q = 230 ∧ j = (s.1 26).toInt.toNat then s12.1 28 else if q = 229 ∧ j = (s.1 26).toInt.toNat then x14 else s12.2.1 q j := fun q j => by rw [hs16, sa_21, hs15, sa_21]
              have h16 : Rp K L B n m (p_l K L (p_t K L m) 93 7 (a_d (0, σ.2 + 2))) s16 := by
                rw [hs16]
                refine Rp_sa ?_ (by omega)
                rw [hs15]
                exact Rp_sa j5 (by omega)
              have F16 : EFx (s.1 26).toInt s s16 := by
                have f12 : EFx (s.1 26).toInt s s12 := EFx_tr (by omega) F8 (EFx_T j4)
                rw [hs16]
                refine EFx_tr (Int.le_refl _) f12 (EFx_tr (Int.le_refl _) (s' := s15) ?_ (EFx_sa (Or.inr ⟨by unfold nRe nRw; omega, by omega⟩) (by rw [e15]; omega)))
                rw [hs15]
                exact EFx_sa (Or.inr ⟨by unfold nRe nRw; omega, by omega⟩) (by omega)
              refine rest s16 _ h16 (by rw [e16]; omega) F16 (fun p hp => ?_) ?_ (fun u' v1 v2 v3 v4 => ?_)
              · rw [r16, if_neg (by omega), if_neg (by omega), j4.2.2.1 p _ (Or.inr (by omega))]
              · rw [hpo, if_pos y2']
              · rw [if_pos k9]
                obtain ⟨w1, w2⟩ := j6 v3
                have hrow : ∀ p, (p = 221 ∨ p = 229 ∨ p = 230) → u'.2.1 p (s.1 26).toInt.toNat = s16.2.1 p (s.1 26).toInt.toNat := fun p hp => v2 p (s.1 26).toInt (by omega) u0 (by rw [e16]; omega) (by omega)
                have hmo := (pl_mono7 (K := K) (L := L) (c := 93) (pt_mono m 11 (by omega)) _ v3).1
                have hmO : (mO K L (σ.2 + 1)).2 = (p_l K L (p_t K L m) 93 7 (a_d (0, σ.2 + 2))).2 := by
                  unfold mO
                  rw [show σ.2 + 1 + 1 = σ.2 + 2 by omega, if_pos k9, show σ.2 + 1 + 2 = σ.2 + 2 + 1 by omega]
                  exact congrArg Prod.snd hmo
                refine ⟨?_, ?_, ?_, (s12.1 26).toInt, by rw [e16] at v1; exact v1, ?_, ?_⟩
                · rw [hrow 221 (by omega), r16, if_neg (by omega), if_neg (by omega), j4.2.2.1 221 _ (Or.inr (by omega)), n1, d1]
                · rw [hrow 229 (by omega), r16, if_neg (by omega), if_pos ⟨rfl, rfl⟩, j1]
                · rw [hrow 230 (by omega), r16, if_pos ⟨rfl, rfl⟩, w1]
                · dsimp only at w2
                  rw [show σ.2 + 2 + 1 = σ.2 + 3 by omega] at w2
                  refine ych_eq w2 (fun p i hp i1 i2 => ?_)
                  rw [v2 p i (by omega) (by omega) (by rw [e16]; exact i2) (by omega), r16, if_neg (by omega), if_neg (by omega)]
                · rw [hmO]
                  rw [e16] at v4
                  exact v4
            · omega
      -- is it a METHOD
      have no : ¬ ((w_f K L false (e_k K L 46 σ)).1 = 0 ∧ (K (σ.2 + 2) = 40 ∨ K (σ.2 + 2) = 91)) → ub_177_85 (Par d) e0 (s.1 7) t (fun v s' => ∃ r : Int32, v = some (.int r) ∧ 0 ≤ (s.1 26).toInt ∧ r.toInt = (s.1 26).toInt ∧ (s.1 26).toInt < (s'.1 26).toInt ∧ EFx (s.1 26).toInt s s' ∧ Rp K L B n m (p_po K L (p_t K L m) (p_e K L m) σ) s' ∧ ((p_po K L (p_t K L m) (p_e K L m) σ).1 = 0 → ePt K L B s' m (eT K L B s' m) e0.toInt r.toInt (s'.1 26).toInt σ.2 ∧ (s'.2.1 225 r.toInt.toNat).toInt = -1)) := by
        intro hn
        unfold ub_177_85 ub_177_86
        exact ⟨fun _ => mk 0 3 (fun _ => ⟨by decide, hn⟩) (fun w => absurd (by decide) w), fun w => absurd (by decide) w⟩
      have yes : (w_f K L false (e_k K L 46 σ)).1 = 0 → (K (σ.2 + 2) = 40 ∨ K (σ.2 + 2) = 91) → ub_177_83 (Par d) e0 (s.1 7) t (fun v s' => ∃ r : Int32, v = some (.int r) ∧ 0 ≤ (s.1 26).toInt ∧ r.toInt = (s.1 26).toInt ∧ (s.1 26).toInt < (s'.1 26).toInt ∧ EFx (s.1 26).toInt s s' ∧ Rp K L B n m (p_po K L (p_t K L m) (p_e K L m) σ) s' ∧ ((p_po K L (p_t K L m) (p_e K L m) σ).1 = 0 → ePt K L B s' m (eT K L B s' m) e0.toInt r.toInt (s'.1 26).toInt σ.2 ∧ (s'.2.1 225 r.toInt.toNat).toInt = -1)) := by
        intro h1 h2
        unfold ub_177_83 ub_177_86
        exact ⟨fun w => absurd w (by decide), fun _ => mk 1 4 (fun w => absurd w (by decide)) (fun _ => ⟨by decide, h1, h2⟩)⟩
      unfold ub_177_53
      refine ⟨fun w => no (fun q => w (by rw [t3.1]; exact q.1)), fun h0 => ?_⟩
      have hw0 : (w_f K L false (e_k K L 46 σ)).1 = 0 := by rw [← t3.1]; exact h0
      have hw2 : e_k K L 46 σ = (0, σ.2 + 1) ∧ K (σ.2 + 1) = 1 ∧ w_f K L false (e_k K L 46 σ) = (0, σ.2 + 1) := by
        have hh := hw0
        unfold w_f at hh ⊢
        by_cases g0 : (e_k K L 46 σ).1 = 0
        · obtain ⟨g1, g2, g3⟩ := ek_0 g0
          rw [g3] at hh ⊢
          dsimp only at hh ⊢
          rw [if_pos rfl] at hh ⊢
          by_cases g4 : K (σ.2 + 1) = 1
          · rw [if_pos g4, if_neg (by decide)]
            exact ⟨rfl, g4, rfl⟩
          · rw [if_neg g4] at hh
            dsimp only at hh
            omega
        · rw [if_neg g0] at hh
          exact absurd hh g0
      obtain ⟨b1, b2, b3⟩ := t3.2 hw0
      rw [hw2.2.2] at b1 b2 b3
      dsimp only at b1 b2 b3
      have b4 : ¬ σ.2 + 1 = n := fun q => by
        have := hw2.2.1
        rw [q, hP.2.1] at this
        omega
      have hkR := (ht.1 (σ.2 + 2) (by omega) (by omega)).1
      have s40 := kR_sg (c := 40) hkR (by decide)
      have s91 := kR_sg (c := 91) hkR (by decide)
      rw [show B + (σ.2 + 2) = B + (σ.2 + 1) + 1 by omega, ← b1] at s40 s91
      intro _ x1' hx1' _
      rw [← hx1'] at s40 s91
      refine ⟨fun w => no (fun q => ?_), fun w15 _ x2' hx2' _ => ?_⟩
      · rcases q.2 with q | q
        · exact w (s40.mpr q).1
        · exact w (s91.mpr q).1
      have ex2 : x2'.toInt = x1'.toInt := by omega
      rw [ex2]
      refine ⟨fun w => yes hw0 (Or.inl (s40.mp ⟨w15, w⟩)), fun w40 _ x3' hx3' _ => ?_⟩
      have ex3 : x3'.toInt = x1'.toInt := by omega
      rw [ex3]
      refine ⟨fun w => no (fun q => ?_), fun w => yes hw0 (Or.inr (s91.mp ⟨w15, w⟩))⟩
      rcases q.2 with q | q
      · exact w40 (s40.mpr q).2
      · exact w (s91.mpr q).2
    refine Par.imp (x_166 h3.1 h3.2.1) ?_
    rintro v7 s6 ⟨rfl, x8, rfl, hr8⟩
    refine ⟨x8, rfl, fun w8 => ?_, fun w8 => ?_⟩
    · rcases hr8 with ⟨-, y8⟩ | ⟨y8, -⟩
      · refine look s6 R3 rfl ?_
        obtain ⟨k0, k1⟩ := tk_t y8
        unfold w_f
        rw [if_pos k0, if_pos k1, if_neg (by decide)]
        exact y3
      · omega
    · rcases hr8 with ⟨y8, -⟩ | ⟨-, y8⟩
      · omega
      refine Par.imp (x_163h h3.1 h3.2.1 (w := 1) (by decide) (by decide) (fun _ => rfl)) ?_
      rintro v10 s9 ⟨rfl, d1, d2, d3⟩
      refine ⟨rfl, look s9 (R78_tr R3 d1) d2 ?_⟩
      unfold w_f
      by_cases h0 : (e_k K L 46 σ).1 = 0
      · rw [if_pos h0] at d3 ⊢
        rw [if_neg (fun q => by rw [show t_k K 1 (e_k K L 46 σ) = true from decide_eq_true ⟨h0, q⟩] at y8; cases y8)]
        exact d3
      · rw [if_neg h0] at d3 ⊢
        exact d3
  · -- ( TYPE )
    rcases hr5 with ⟨-, y2, y3⟩ | ⟨y1, -⟩
    · obtain ⟨k0, k1⟩ := tk_t y2
      obtain ⟨g0, g1, g2⟩ := ek_0 k0
      rw [g2] at y2 y3 k1
      dsimp only at k1
      unfold a_d at y3
      dsimp only at y3
      have h3 := Rp_78 h R3 y3
      refine x_node (Q := fun x13 s16 => Par d 173 [.ref 213] s16 _) h3 (fun x13 u u0 u1 u2 u3 u4 u5 u6 => ?_)
      rw [e263] at u0 u1 u2 u3 u6
      refine Par.imp (ih3 m _ u (by omega) u4) ?_
      rintro v18 s17 ⟨x19, rfl, j1, j2, j3, j4, j5, j6⟩
      rw [u2] at j1 j2 j3 j4 j6
      refine ⟨x19, rfl, fun _ s20 hs20 => ?_⟩
      have hz : (((s.1 26).toInt.toNat : Nat) : Int) = (s.1 26).toInt := Int.toNat_of_nonneg u0
      have e20 : s20.1 = s17.1 := by rw [hs20]; rfl
      rw [u1] at hs20
      have r20 : ∀ q j, s20.2.1 q j = if q = 229 ∧ j = (s.1 26).toInt.toNat then x19 else s17.2.1 q j := fun q j => by rw [hs20, sa_21]
      have h20 : Rp K L B n m (p_t K L m false (0, σ.2 + 1 + 1)) s20 := by
        rw [hs20]
        exact Rp_sa j5 (by omega)
      refine Par.imp (x_167 hP h20.1 h20.2.1 (a1 := 41) (by decide)) ?_
      rintro v22 s21 ⟨rfl, w1, w2⟩
      rw [show (41 : Int32).toInt = 41 by decide] at w2
      have e21 : s21.1 26 = s17.1 26 := by rw [w1.2 26 (by decide) (by decide), e20]
      have hpo : p_po K L (p_t K L m) (p_e K L m) σ = e_k K L 41 (p_t K L m false (0, σ.2 + 1 + 1)) := by
        unfold p_po
        rw [g2, if_pos y2]
        rfl
      have F20 : EFx (s.1 26).toInt s s20 := by
        have f17 : EFx (s.1 26).toInt s s17 := EFx_tr (Int.le_refl _) F3 (EFx_tr (by omega) u3 (EFx_T j4))
        rw [hs20]
        exact EFx_tr (Int.le_refl _) f17 (EFx_sa (Or.inr ⟨by unfold nRe nRw; omega, by omega⟩) (by omega))
      refine ⟨rfl, x13, rfl, u0, u1, by rw [e21]; omega, EFx_tr (Int.le_refl _) F20 (EFx_78 w1 (by rw [e20]; omega)), by rw [hpo]; exact Rp_78 h20 w1 w2, fun hr => ?_⟩
      rw [hpo] at hr
      obtain ⟨z1, -, -⟩ := ek_0 hr
      obtain ⟨y1', y2'⟩ := j6 z1
      obtain ⟨n1, n2, n3, n4, n5, n6, n7, n8, n9⟩ := u6
      have old : ∀ p, ¬ p = 229 → s21.2.1 p (s.1 26).toInt.toNat = u.2.1 p (s.1 26).toInt.toNat := fun p hp => by
        rw [w1.1, r20, if_neg (fun q => hp q.1), j4.2.2.1 p _ (Or.inr (by omega))]
      rw [u1]
      refine ⟨⟨⟨u0, by rw [e21]; omega⟩, by rw [old 227 (by decide)]; exact n7, by rw [old 223 (by decide), n3, (h.2.1.2 g0).1], ?_⟩, by rw [old 225 (by decide)]; exact n5⟩
      rw [if_pos k1]
      refine ⟨by rw [old 221 (by decide), n1]; decide, by rw [w1.1, r20, if_pos ⟨rfl, rfl⟩, j1], ?_⟩
      rw [e21]
      dsimp only at y1'
      rw [show σ.2 + 1 + 1 = σ.2 + 2 by omega] at y1'
      refine yT_eq m _ _ _ y1' ⟨fun p i hp i1 i2 => ?_, fun i i1 i2 => ?_⟩
      · rw [w1.1, r20, if_neg (by omega)]
      · rw [w1.1, r20, if_neg (by omega)]
    · omega
end REP2
