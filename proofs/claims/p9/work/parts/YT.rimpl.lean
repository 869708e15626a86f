/-! ===== the reference: implement ===== -/
section YTI
variable {ar kd : Int → Int} {cf : Nat → Int} {fs : Nat → Nat} {F H d e : Nat} {nT : Int} {tm tn : Int → Nat} {hd : Nat → Nat × Nat × List (List Int)} {hb ow hw : Nat → Int} {Bf : Int → List (List Int)} {b A T T' ca cb co β0 β1 nX nY V : Int} {s u : yS} {a1 a2 a3 a4 a5 a6 a7 : Int32} {A' B' O' : List Int} {bn : Int → List Int}
theorem cvA_1 {x : Int} (h : ¬ x = 0) : ¬ cvA x = 1 := by
  unfold cvA
  rw [if_neg h]
  by_cases h7 : x = 7
  · rw [if_pos h7]
    decide
  · rw [if_neg h7]
    decide
theorem mtL_s {so : Int → Int} {η θ : Nat → List Int} {i n : Nat} (h : 0 < n) : (mtK so hw hd η θ i = 0 ∧ mtL so hw hd η θ i n = mtL so hw hd η θ (i + 1) (n - 1)) ∨ (¬ mtK so hw hd η θ i = 0 ∧ mtL so hw hd η θ i n = mtK so hw hd η θ i) := by
  cases n with
  | zero => omega
  | succ n =>
    show _ ∨ (_ ∧ (if mtK so hw hd η θ i = 0 then mtL so hw hd η θ (i + 1) n else mtK so hw hd η θ i) = _)
    by_cases hk : mtK so hw hd η θ i = 0
    · exact Or.inl ⟨hk, if_pos hk⟩
    · exact Or.inr ⟨hk, if_neg hk⟩
set_option maxHeartbeats 4000000 in
/-- implement, the METHODS one by one: the owner stands at a7 -/
theorem im_52 (hG : PGr ar kd cf fs F H nT tm tn hd hb ow hw Bf b A s) (hbo : bOK β0 β1) (hW : WFr T (e : Int) s u) (h8 : u.1 8 = s.1 8) (h70 : (u.1 70).toInt = (e : Int)) (h64 : (u.1 64).toInt = T') (hTT : T ≤ T') (hA : A ≤ T) (h6 : a6 = s.1 64) (h5 : a5.toInt = cb) (hk2 : kd cb = 2) (hB : TYe ar nT β0 β1 nX nY T' u a3.toInt (cb :: B')) (hO : TYe ar nT β0 β1 nX nY T' u a7.toInt (co :: O')) (hco : 0 ≤ co ∧ co < nT) (hV : V = mtL (rso kd cf fs F tm tn hw co) hw hd (eta (argT ar (cb :: B')) sTn) (eta (argT ar (co :: O')) sTn) (tm cb) (tn cb)) : ub_195_52 (Par d) a1 a2 a3 a4 a5 a6 a7 u (ALq T (e : Int) (cvA V) s) := by
  obtain ⟨η, hη⟩ : ∃ η, η = eta (argT ar (cb :: B')) sTn := ⟨_, rfl⟩
  obtain ⟨θ, hθ⟩ : ∃ θ, θ = eta (argT ar (co :: O')) sTn := ⟨_, rfl⟩
  rw [← hη, ← hθ] at hV
  have hGu := PGr_w hW hA hG
  obtain ⟨⟨g75, -⟩, -, -, gi, gh, -, ha, -⟩ := hGu
  obtain ⟨i0, i1, i2, i3, i4⟩ := gi cb hk2
  unfold ub_195_52
  rw [g75]
  intro _ x1 hx1 _ x2 hx2
  have e2 : x2.toInt = 24 * b + cb := by omega
  have f103 : ∀ (b1 b2 b3 b4 b5 b7 b8 b9 b10 : Int32) (t : yS), WFr T' (e : Int) u t → t.1 8 = u.1 8 → (t.1 70).toInt = (e : Int) → b9.toInt = cvA V → ub_195_103 (Par d) b1 b2 b3 b4 b5 a6 b7 b8 b9 b10 t (ALq T (e : Int) (cvA V) s) := by
    intro b1 b2 b3 b4 b5 b7 b8 b9 b10 t q1 q2 q3 q4
    unfold ub_195_103
    intro s1 hs1
    refine ⟨WFr_tr hW (WFr_tr (WFr_mo q1 hTT (Int.le_refl _)) (by rw [hs1]; exact WFr_sf (Or.inr (Or.inl rfl))) (Int.le_refl _) (Int.le_refl _)) (Int.le_refl _) (Int.le_refl _), ⟨?_, ?_, ?_⟩, b9, rfl, q4⟩
    · rw [hs1, sfr_1, if_neg (by decide), q2, h8]
    · rw [hs1, sfr_1, if_pos rfl, h6]
    · rw [hs1, sfr_1, if_neg (by decide)]
      exact q3
  refine ⟨fun b1 b2 b3 b4 b5 b6 b7 b8 b9 b10 t => b3 = a3 ∧ b5 = a5 ∧ b6 = a6 ∧ b7 = a7 ∧ b8 = x2 ∧ WFr T' (e : Int) u t ∧ t.1 8 = u.1 8 ∧ t.1 64 = u.1 64 ∧ (t.1 70).toInt = (e : Int) ∧ ∃ k : Nat, k ≤ tn cb ∧ b10.toInt = (k : Int) ∧ ((b9.toInt = 1 ∧ V = mtL (rso kd cf fs F tm tn hw co) hw hd η θ (tm cb + k) (tn cb - k)) ∨ (¬ b9.toInt = 1 ∧ b9.toInt = cvA V)), ⟨rfl, rfl, rfl, rfl, rfl, WFr_rf, rfl, rfl, h70, 0, Nat.zero_le _, by decide, Or.inl ⟨by decide, hV⟩⟩, ?_⟩
  rintro b1 b2 b3 b4 b5 b6 b7 b8 b9 b10 t ⟨r3, r5, r6, r7, r8, t1, t2, t3, t4, k, k1, k2, k3⟩
  subst r3 r5 r6 r7 r8
  have hGt := PGr_w (WFr_tr hW t1 hTT (Int.le_refl _)) hA hG
  have hGt2 := hGt
  obtain ⟨-, -, -, git, ght, -⟩ := hGt2
  obtain ⟨-, j1, j2, -⟩ := git cb hk2
  unfold ub_195_63
  rw [e2, j1, j2]
  intro _
  refine ⟨fun w => f103 _ _ _ _ _ _ _ _ _ t t1 t2 t4 ?_, fun w => ⟨fun w2 => f103 _ _ _ _ _ _ _ _ _ t t1 t2 t4 ?_, fun w2 _ _ y1 hy1 _ _ => ?_⟩⟩
  · rcases k3 with ⟨q1, q2⟩ | q
    · have ek : tn cb - k = 0 := by omega
      rw [ek] at q2
      rw [q1, q2]
      show (1 : Int) = cvA 0
      decide
    · exact q.2
  · rcases k3 with q | q
    · exact absurd q.1 w2
    · exact q.2
  · have q2 : V = mtL (rso kd cf fs F tm tn hw co) hw hd η θ (tm cb + k) (tn cb - k) := by
      rcases k3 with ⟨-, q2⟩ | q
      · exact q2
      · exact absurd w2 q.1
    have e1 : y1.toInt = 204 * b + ((tm cb + k : Nat) : Int) := by omega
    have hlt : tm cb + k < H := by omega
    obtain ⟨i5, i6, -⟩ := i4 (tm cb + k) (by omega) (by omega)
    have hOt := TYe_w t1 hO
    have hel : KI (t.2.1 264) b7.toInt / 8 = co := by
      have := hOt.2.1 0 _ rfl
      rw [show b7.toInt + ((0 : Nat) : Int) = b7.toInt by omega] at this
      rw [this, rhE_d (ha co)]
      unfold rhC
      have := hGt.1.2.2.2.2.2
      rw [if_pos (by omega)]
    have ew : (t.2.1 217 (t.2.1 244 y1.toInt.toNat).toInt.toNat).toInt = wHr b t (tm cb + k) := by
      unfold wHr
      rw [e1]
    refine Par.imp (x_193 (x := hw (tm cb + k)) hGt hel hco (fun h hh => ?_)) ?_
    · rw [ew]
      exact (ght h hh).2.2.2 _ hlt
    rintro v3 s2 ⟨⟨p1, p2⟩, x4, rfl, hr⟩
    have W2 : WFr T' (e : Int) t s2 := ⟨fun q _ _ _ _ _ w6 w7 => p2 q w6 w7, by rw [p1], fun q j _ => by rw [p1], fun j _ => by rw [p1], fun q j _ _ => by rw [p1], fun q j _ _ => by rw [p1]⟩
    have emk : mtK (rso kd cf fs F tm tn hw co) hw hd η θ (tm cb + k) = if rso kd cf fs F tm tn hw co (hw (tm cb + k)) < 0 then 7 else alkH η θ (hd (tm cb + k)) (hd (rso kd cf fs F tm tn hw co (hw (tm cb + k))).toNat) := rfl
    have hst := mtL_s (hw := hw) (hd := hd) (so := rso kd cf fs F tm tn hw co) (η := η) (θ := θ) (i := tm cb + k) (n := tn cb - k) (by omega)
    rw [← q2] at hst
    refine ⟨x4, rfl, fun w3 => ?_, fun w3 => ?_⟩
    · rcases hr with ⟨-, r2⟩ | ⟨r1, -⟩
      · unfold ub_195_100
        intro _ y2 hy2
        refine ⟨rfl, rfl, rfl, rfl, rfl, WFr_tr t1 W2 (Int.le_refl _) (Int.le_refl _), by rw [p2 8 (by decide) (by decide)]; exact t2, by rw [p2 64 (by decide) (by decide)]; exact t3, by rw [p2 70 (by decide) (by decide)]; exact t4, k + 1, by omega, by omega, Or.inr ⟨by decide, ?_⟩⟩
        rw [r2, if_pos (by decide)] at emk
        rcases hst with ⟨z1, -⟩ | ⟨-, z2⟩
        · rw [emk] at z1
          exact absurd z1 (by decide)
        · rw [z2, emk]
          decide
      · omega
    · rcases hr with ⟨r1, -⟩ | ⟨-, g, r2, r3, r4, r5, r6⟩
      · exact absurd r1 w3
      rw [r2, if_neg (by omega), Int.toNat_natCast] at emk
      refine Par.imp (x_196 (T := T') (h := tm cb + k) (g := g) (PGr_w W2 (by omega) hGt) hbo (by rw [p2 64 (by decide) (by decide), t3]; exact h64) (by omega) (by rw [p2 70 (by decide) (by decide)]; exact t4) e1 r4 hlt r3 h5 (TYe_w W2 (TYe_w t1 hB)) (TYe_w W2 hOt) i5 i6 r6 r5) ?_
      rintro v6 s5 ⟨o1, ⟨o2, o3, o4⟩, x7, rfl, hx7⟩
      refine ⟨x7, rfl, ?_⟩
      unfold ub_195_100
      intro _ y2 hy2
      refine ⟨rfl, rfl, rfl, rfl, rfl, WFr_tr t1 (WFr_tr W2 o1 (Int.le_refl _) (Int.le_refl _)) (Int.le_refl _) (Int.le_refl _), by rw [o2, p2 8 (by decide) (by decide)]; exact t2, by rw [o3, p2 64 (by decide) (by decide)]; exact t3, o4, k + 1, by omega, by omega, ?_⟩
      rw [← hη, ← hθ, ← emk] at hx7
      rcases hst with ⟨z1, z2⟩ | ⟨z1, z2⟩
      · refine Or.inl ⟨?_, ?_⟩
        · rw [hx7, z1]
          decide
        · rw [z2, show tm cb + k + 1 = tm cb + (k + 1) by omega, Nat.sub_sub]
      · refine Or.inr ⟨?_, ?_⟩
        · rw [hx7]
          exact cvA_1 z1
        · rw [hx7, z2]
end YTI
