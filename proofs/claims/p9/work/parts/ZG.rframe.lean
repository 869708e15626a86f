/-! ===== the reference: what resolve leaves of ty, whatever the tree ===== -/
section ZGF
variable {s : yS}
theorem xf_200 {d : Nat} {a1 a2 : Int32} : Par d 200 [.ref 213, .int a1, .int a2] s (fun v s' => s' = s ∧ ∃ r : Int32, v = some (.int r)) := by
  cases d with
  | zero => exact Par_0
  | succ d =>
    refine pb_200 ?_
    unfold ub_200_0
    intro _ _ x1 _
    refine ⟨fun _ _ _ _ u => u = s, rfl, ?_⟩
    rintro b1 b2 b3 b4 u rfl
    unfold ub_200_9
    exact ⟨fun _ => ⟨rfl, b3, rfl⟩, fun _ _ _ _ _ _ _ _ _ => ⟨fun _ _ _ _ => rfl, fun _ _ _ _ => rfl⟩⟩
theorem xf_203 {d : Nat} {a1 : Int32} : Par d 203 [.ref 213, .int a1] s (fun v s' => s' = s ∧ ∃ r : Int32, v = some (.int r)) := by
  cases d with
  | zero => exact Par_0
  | succ d =>
    have f111 : ∀ (b1 b2 : Int32), ub_203_111 (Par d) b1 b2 s (fun v s' => s' = s ∧ ∃ r : Int32, v = some (.int r)) := by
      intro b1 b2
      unfold ub_203_111
      refine ⟨fun _ _ u => u = s, rfl, ?_⟩
      rintro c1 c2 u rfl
      unfold ub_203_113
      exact fun _ => ⟨fun _ => ⟨rfl, -1, rfl⟩, fun _ _ x1 _ _ x2 _ _ _ => ⟨fun _ _ x3 _ => rfl, fun _ => ⟨rfl, c2, rfl⟩⟩⟩
    have f84 : ∀ (b1 b2 : Int32), ub_203_84 (Par d) b1 b2 s (fun v s' => s' = s ∧ ∃ r : Int32, v = some (.int r)) := by
      intro b1 b2
      unfold ub_203_84
      refine ⟨fun _ => f111 _ _, fun _ => Par.imp xf_200 ?_⟩
      rintro v2 s1 ⟨hs1, x3, rfl⟩
      subst hs1
      refine ⟨x3, rfl, fun _ => f111 _ _, fun _ _ x4 _ _ x5 _ _ x6 _ _ x7 _ => Par.imp xf_200 ?_⟩
      rintro v9 s8 ⟨hs8, x10, rfl⟩
      exact ⟨x10, rfl, fun _ x11 _ => ⟨hs8, x11, rfl⟩⟩
    have f42 : ∀ (b1 b2 : Int32), ub_203_42 (Par d) b1 b2 s (fun v s' => s' = s ∧ ∃ r : Int32, v = some (.int r)) := by
      intro b1 b2
      unfold ub_203_42
      refine ⟨fun _ _ u => u = s, rfl, ?_⟩
      rintro c1 c2 u rfl
      unfold ub_203_44
      exact ⟨fun _ => f84 _ _, fun _ _ => ⟨fun _ => f84 _ _, fun _ _ x1 _ _ x2 _ _ _ => ⟨fun _ _ x3 _ => rfl, fun _ _ x4 _ _ x5 _ _ x6 _ _ x7 _ _ x8 _ => ⟨rfl, x8, rfl⟩⟩⟩⟩
    refine pb_203 ?_
    unfold ub_203_0
    refine ⟨fun _ _ u => u = s, rfl, ?_⟩
    rintro c1 c2 u rfl
    unfold ub_203_2
    exact ⟨fun _ => f42 _ _, fun _ _ => ⟨fun _ => f42 _ _, fun _ _ x1 _ _ x2 _ _ _ => ⟨fun _ _ x3 _ => rfl, fun _ _ x4 _ _ x5 _ _ x6 _ _ x7 _ _ x8 _ => ⟨rfl, x8, rfl⟩⟩⟩⟩
/-- ty is another only between where it stood and where it stands -/
def TYf (s s' : yS) : Prop := (s.1 65).toInt ≤ (s'.1 65).toInt ∧ ∀ j : Nat, ((j : Int) < (s.1 65).toInt ∨ (s'.1 65).toInt ≤ (j : Int)) → s'.2.1 264 j = s.2.1 264 j
theorem TYf_rf : TYf s s := ⟨Int.le_refl _, fun _ _ => rfl⟩
theorem TYf_tr {s' s'' : yS} (h : TYf s s') (g : TYf s' s'') : TYf s s'' := ⟨by have := h.1; have := g.1; omega, fun j hj => by
  have h1 := h.1
  have g1 := g.1
  rw [g.2 j (by omega), h.2 j (by omega)]⟩
theorem TYf_78 {s' : yS} (h : R78 s s') : TYf s s' := by
  have e1 : s'.1 65 = s.1 65 := h.2 65 (by decide) (by decide)
  refine ⟨by rw [e1]; exact Int.le_refl _, fun j _ => by rw [h.1]⟩
theorem TYf_sa {q i : Nat} {v : Int32} (hq : ¬ q = 264) : TYf s (sa s q i v) := ⟨by rw [sa_1r]; exact Int.le_refl _, fun j _ => by rw [sa_21, if_neg (fun e => hq e.1.symm)]⟩
theorem xf_204 : ∀ (d : Nat) (a1 a2 : Int32) (s : yS), a2.toInt = 0 → Par d 204 [.ref 213, .int a1, .int a2] s (fun v s' => v = none ∧ TYf s s') := by
  intro d
  induction d with
  | zero => exact fun _ _ _ _ => Par_0
  | succ d ih =>
    intro a1 a2 s h2
    have f117 : ∀ (b1 b3 b4 b5 : Int32) (u : yS), TYf s u → ub_204_117 (Par d) b1 a2 b3 b4 b5 u (fun v s' => v = none ∧ TYf s s') := by
      intro b1 b3 b4 b5 u hu
      unfold ub_204_117
      intro _ _ x1 _ _ s2 hs2 _
      have h2 : TYf s s2 := TYf_tr hu (by rw [hs2]; exact TYf_sa (by decide))
      refine ⟨fun _ => ⟨rfl, h2⟩, fun _ _ => Par.imp x_163 ?_⟩
      rintro v4 s3 ⟨rfl, r1, -⟩
      exact ⟨rfl, rfl, TYf_tr h2 (TYf_78 r1)⟩
    have f68 : ∀ (b1 b3 b4 : Int32) (u : yS), TYf s u → ub_204_68 (Par d) b1 a2 b3 b4 u (fun v s' => v = none ∧ TYf s s') := by
      intro b1 b3 b4 u hu
      unfold ub_204_68
      refine ⟨fun _ _ s1 hs1 _ x2 _ _ _ x3 _ k3 s4 hs4 _ x5 hx5 s6 hs6 _ => ?_, fun _ => ⟨rfl, hu⟩⟩
      have e1 : s1.1 = u.1 := by rw [hs1, sa_1r]
      have e4 : s4.1 = s1.1 := by rw [hs4, sa_1r]
      have e6 : (s6.1 65).toInt = (u.1 65).toInt + 1 := by
        rw [hs6, sfr_1, if_pos rfl, hx5, e4, e1]
      have T6 : TYf u s6 := by
        refine ⟨by omega, fun j hj => ?_⟩
        rw [e1] at k3
        rw [hs6, sfr_2, hs4, sa_21, e1, if_neg (fun q => by omega), hs1, sa_21, if_neg (fun q => absurd q.1 (by decide))]
      refine ⟨fun _ b2 _ _ _ w => b2 = a2 ∧ TYf s w, ⟨rfl, TYf_tr hu T6⟩, ?_⟩
      rintro c1 c2 c3 c4 c5 w ⟨rfl, hw⟩
      unfold ub_204_102
      refine ⟨fun _ => f117 _ _ _ _ w hw, fun _ => ⟨fun _ => f117 _ _ _ _ w hw, fun _ => Par.imp (ih c5 c2 w h2) ?_⟩⟩
      rintro v2 s7 ⟨rfl, h7⟩
      exact ⟨rfl, fun _ => ⟨rfl, TYf_tr hw h7⟩⟩
    have f31 : ∀ (b1 b3 t0 : Int32) (u : yS), TYf s u → ub_204_31 (Par d) b1 a2 b3 t0 u (fun v s' => v = none ∧ TYf s s') := by
      intro b1 b3 t0 u hu
      have f60 : ∀ (t1 t2 : Int32), ub_204_60 (Par d) b1 a2 b3 t0 t1 t2 u (fun v s' => v = none ∧ TYf s s') := by
        intro t1 t2
        unfold ub_204_60
        refine ⟨fun _ => f68 _ _ _ u hu, fun _ _ => Par.imp x_163 ?_⟩
        rintro v4 s3 ⟨rfl, r1, -⟩
        exact ⟨rfl, f68 _ _ _ s3 (TYf_tr hu (TYf_78 r1))⟩
      unfold ub_204_31
      refine ⟨fun _ _ => ⟨fun _ _ x1 _ _ x2 _ _ => f60 _ _, fun _ => f60 _ _⟩, fun _ _ => Par.imp x_163 ?_⟩
      rintro v4 s3 ⟨rfl, r1, -⟩
      exact ⟨rfl, f68 _ _ _ s3 (TYf_tr hu (TYf_78 r1))⟩
    refine pb_204 ?_
    unfold ub_204_0
    refine ⟨fun _ => ⟨fun _ _ _ => ?_, fun q => absurd h2 q⟩, fun _ => ⟨rfl, TYf_rf⟩⟩
    unfold ub_204_23
    refine ⟨fun _ => Par.imp xf_203 ?_, fun _ => f31 _ _ _ s TYf_rf⟩
    rintro v2 s1 ⟨hs1, x3, rfl⟩
    rw [hs1]
    exact ⟨x3, rfl, f31 _ _ _ s TYf_rf⟩
end ZGF
