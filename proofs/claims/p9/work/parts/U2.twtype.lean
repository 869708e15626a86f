/-! ===== namesOfType ===== -/
section UTT
variable (W K L : Int → Int)
/-- heads: each name, then its PARAMS -/
def twH : List Int → List Int → List (Int × Bool)
  | _, [] => []
  | pre, q :: l => (q, anyW W pre q) :: (tw1 W [] (h_f K L (0, q + 1)) ++ twH (pre ++ [q]) l)
/-- a type whose declaration begins at t, names of types ahead: E -/
def twT (E : List Int) (t : Int) : List (Int × Bool) := (t + 1, anyW W E (t + 1)) :: (tw1 W [] (tFo K L false (0, t)) ++ (if tSt K L false (0, t) = true then tw1 W [] (tMe K L false (0, t)) else twH W K L [] (tMe K L false (0, t))))
end UTT
section UTU
variable {d : Nat} {s s' : yS} {B b h x y t D : Int} {K L P W : Int → Int} {p q : Nat} {a1 : Int32} {Ls E : List Int} {m : Nat} {f φ : Int}
theorem frst_app : ∀ (l l' : List (Int × Bool)) (φ : Int), frst P (l ++ l') φ = frst P l' (frst P l φ)
  | [], _, _ => rfl
  | a :: l, l', φ => by
    show frst P (l ++ l') _ = frst P l' (frst P l _)
    exact frst_app l l' _
theorem YA_NTr (g : YA K L B s p q f x y Ls) : NTr B s p f Ls := fun i t ht => (g i t ht).1
set_option maxHeartbeats 1000000 in
theorem x_201 (h30 : (s.1 30).toInt = b) (hD : a1.toInt = D) (hDm : D = 24 * b + (m : Int)) (hD0 : 0 ≤ D) (hh : 0 ≤ h) (hE : NTr B s 234 (24 * b) E) (hm : m ≤ E.length) (hT : TYr K L B s D h x y t) : Par d 201 [.ref 213, .int a1] s (fun v s' => v = none ∧ R8 s s' ∧ (s'.1 8).toInt = frst (lRf B s) (twT (wRf B s) K L (E.take m) t) (s.1 8).toInt) := by
  obtain ⟨⟨k1, k2, k3, k4, k5, k6⟩, n1, n2, n3⟩ := hT
  cases d with
  | zero => exact Par_0
  | succ d =>
    refine pb_201 ?_
    unfold ub_201_0
    rw [h30, hD]
    intro _ x1 hx1 _ _ x2 hx2
    generalize hLM : tMe K L false (0, t) = LM at *
    generalize hst : tSt K L false (0, t) = st at *
    generalize hLF : tFo K L false (0, t) = LF at *
    -- from the PARAMS on
    have tail : ∀ u : yS, R8 s u → (u.1 8).toInt = (if (s.1 8).toInt = 0 ∧ anyW (wRf B s) (E.take m) (t + 1) = true then 3 + 16 * lRf B s (t + 1) else (s.1 8).toInt) → ub_201_25 (Par d) a1 x1 u (fun v s' => v = none ∧ R8 s s' ∧ (s'.1 8).toInt = frst (lRf B s) (twT (wRf B s) K L (E.take m) t) (s.1 8).toInt) := by
      intro u u1 u2
      unfold ub_201_25
      rw [hD]
      intro _ x3 hx3 _
      refine Par.imp (x_199 (B := B) (Ls := LF) (pre := []) (by omega) (by rw [hx3]; exact NTr_8 u1 (YA_NTr k4)) (by rw [u1.1]; exact k2) (Or.inl ⟨by decide, rfl⟩)) ?_
      rintro v3 s2 ⟨rfl, c1, c2⟩
      rw [lRf_8 (B := B) u1, wRf_8 (B := B) u1] at c2
      have r2 := R8_tr u1 c1
      refine ⟨rfl, fun _ x4 hx4 _ => ?_⟩
      -- the fields
      have flds : (s2.2.1 239 D.toNat).toInt = ((if st = true then LM else []).length : Int) ∧ NTr B s2 240 (6 * D) (if st = true then LM else []) := by
        rw [r2.1]
        by_cases hs : st = true
        · rw [if_pos hs]
          exact ⟨(n2 hs).1, NTr_8 r2 (YA_NTr (n2 hs).2.2)⟩
        · rw [if_neg hs]
          refine ⟨(n3 (by cases st with | false => rfl | true => exact absurd rfl hs)).1, fun i w hw => by cases hw⟩
      refine Par.imp (x_199 (B := B) (Ls := if st = true then LM else []) (pre := []) (by omega) (by rw [hx4]; exact flds.2) flds.1 (Or.inl ⟨by decide, rfl⟩)) ?_
      rintro v6 s5 ⟨rfl, c3, c4⟩
      rw [lRf_8 (B := B) r2, wRf_8 (B := B) r2] at c4
      have r5 := R8_tr r2 c3
      refine ⟨rfl, fun _ => ?_⟩
      have e242 : ∀ z : yS, R8 s z → (z.2.1 242 D.toNat).toInt = h := fun z hz => by rw [hz.1]; exact k6
      have e243 : ∀ z : yS, R8 s z → (z.2.1 243 D.toNat).toInt = ((if st = true then [] else LM).length : Int) := fun z hz => by
        rw [hz.1]
        by_cases hs : st = true
        · rw [if_pos hs]
          exact (n2 hs).2.1
        · rw [if_neg hs]
          exact (n3 (by cases st with | false => rfl | true => exact absurd rfl hs)).2.1
      -- all of it
      have all : frst (lRf B s) (twH (wRf B s) K L [] (if st = true then [] else LM)) (s5.1 8).toInt = frst (lRf B s) (twT (wRf B s) K L (E.take m) t) (s.1 8).toInt := by
        unfold twT
        rw [hLM, hst, hLF, c4, c2, u2]
        show _ = frst (lRf B s) (tw1 (wRf B s) [] LF ++ _) _
        rw [frst_app]
        by_cases hs : st = true
        · rw [if_pos hs, if_pos hs, if_pos hs]
          rfl
        · rw [if_neg hs, if_neg hs, if_neg hs]
          rfl
      generalize hLH : (if st = true then [] else LM) = LH at *
      have hHD : ∀ (i : Nat) (q : Int), LH[i]? = some q → HDr K L B s (h + i) x y q := fun i q hq => by
        by_cases hs : st = true
        · rw [if_pos hs] at hLH
          rw [← hLH] at hq
          cases hq
        · rw [if_neg hs] at hLH
          rw [← hLH] at hq
          exact (n3 (by cases st with | false => rfl | true => exact absurd rfl hs)).2.2 i q hq
      have hN : NTr B s 244 h LH := fun i q hq => (hHD i q hq).1.1
      refine ⟨fun b1 b2 b3 u => b1 = a1 ∧ R8 s u ∧ ∃ i : Nat, b3.toInt = h + (i : Int) ∧ i ≤ LH.length ∧ frst (lRf B s) (twH (wRf B s) K L (LH.take i) (LH.drop i)) (u.1 8).toInt = frst (lRf B s) (twT (wRf B s) K L (E.take m) t) (s.1 8).toInt, ⟨rfl, r5, 0, by rw [e242 s5 r5]; omega, Nat.zero_le _, by rw [List.take_zero, List.drop_zero]; exact all⟩, ?_⟩
      rintro b1 b2 b3 z ⟨f1, f2, i, f3, f4, f5⟩
      subst f1
      unfold ub_201_54
      rw [hD, e242 z f2, e243 z f2]
      intro _ _ _ x7 hx7
      refine ⟨fun w => ?_, fun w _ _ _ _ x8 hx8 => ?_⟩
      · have hi : i = LH.length := by omega
        rw [hi, List.drop_length] at f5
        exact ⟨rfl, f2, f5⟩
      · have hi : i < LH.length := by omega
        have hq : LH[i]? = some LH[i] := List.getElem?_eq_getElem hi
        obtain ⟨⟨hb1, hb2, hb3, hb4⟩, -, -⟩ := hHD i _ hq
        have er : (z.2.1 244 b3.toInt.toNat).toInt = B + LH[i] := by
          rw [f2.1, f3]
          exact hb1
        rw [List.drop_eq_getElem_cons hi] at f5
        have nxt : ∀ v : yS, R8 z v → (v.1 8).toInt = (if (z.1 8).toInt = 0 ∧ anyW (wRf B s) (LH.take i) LH[i] = true then 3 + 16 * lRf B s LH[i] else (z.1 8).toInt) → ub_201_91 (Par d) (fun b1' b2 b3 u => b1' = b1 ∧ R8 s u ∧ ∃ i : Nat, b3.toInt = h + (i : Int) ∧ i ≤ LH.length ∧ frst (lRf B s) (twH (wRf B s) K L (LH.take i) (LH.drop i)) (u.1 8).toInt = frst (lRf B s) (twT (wRf B s) K L (E.take m) t) (s.1 8).toInt) b1 b2 b3 v (fun v s' => v = none ∧ R8 s s' ∧ (s'.1 8).toInt = frst (lRf B s) (twT (wRf B s) K L (E.take m) t) (s.1 8).toInt) := by
          intro v v1 v2
          have rv := R8_tr f2 v1
          unfold ub_201_91
          intro _ x9 hx9 _
          refine Par.imp (x_199 (B := B) (Ls := h_f K L (0, LH[i] + 1)) (pre := []) (by omega) (by rw [hx9, f3]; exact NTr_8 rv (YA_NTr hb4)) (by rw [rv.1, f3]; exact hb2) (Or.inl ⟨by decide, rfl⟩)) ?_
          rintro v10 s10 ⟨rfl, c5, c6⟩
          rw [lRf_8 (B := B) rv, wRf_8 (B := B) rv, v2] at c6
          refine ⟨rfl, fun _ x11 hx11 => ⟨rfl, R8_tr rv c5, i + 1, by omega, by omega, ?_⟩⟩
          rw [take_s hq, c6]
          rw [← f5]
          show _ = frst (lRf B s) (tw1 (wRf B s) [] (h_f K L (0, LH[i] + 1)) ++ twH (wRf B s) K L (LH.take i ++ [LH[i]]) (LH.drop (i + 1))) _
          rw [frst_app]
        have eh : (z.2.1 242 D.toNat).toInt = h := e242 z f2
        refine Par.imp (x_198 (B := B) (t := LH[i]) (Ls := LH) (m := i) (by omega) er (by rw [eh]; exact NTr_8 f2 hN) (by omega) (by omega)) ?_
        rintro v4 s3 ⟨rfl, x12, rfl, hr⟩
        rw [wRf_8 (B := B) f2] at hr
        refine ⟨x12, rfl, fun w5 => ?_, fun w5 _ => ?_⟩
        · rcases hr with ⟨c5, -⟩ | ⟨-, c5⟩
          · omega
          refine nxt _ R8_rf ?_
          rw [if_neg (fun w => by rw [c5] at w; cases w.2)]
        · rcases hr with ⟨-, c5⟩ | ⟨c5, -⟩
          · refine Par.imp (x_163t (B := B) (t := LH[i]) er) ?_
            rintro v7 s6 ⟨rfl, c6, c7⟩
            refine ⟨rfl, nxt s6 c6 ?_⟩
            rw [c7, lRf_8 (B := B) f2]
            by_cases h0 : (s3.1 8).toInt = 0
            · rw [if_pos h0, if_pos ⟨h0, c5⟩]
            · rw [if_neg h0, if_neg (fun w => h0 w.1)]
          · omega
    refine Par.imp (x_198 (B := B) (t := t + 1) (Ls := E) (m := m) (by omega) k1 (by rw [hx1]; exact hE) (by omega) hm) ?_
    rintro v4 s3 ⟨rfl, x5, rfl, hr⟩
    refine ⟨x5, rfl, fun w5 => ?_, fun w5 _ => ?_⟩
    · rcases hr with ⟨c1, -⟩ | ⟨-, c1⟩
      · omega
      refine tail _ R8_rf ?_
      rw [if_neg (fun w => by rw [c1] at w; cases w.2)]
    · rcases hr with ⟨-, c1⟩ | ⟨c1, -⟩
      · refine Par.imp (x_163t (B := B) (t := t + 1) k1) ?_
        rintro v7 s6 ⟨rfl, c6, c7⟩
        refine ⟨rfl, tail s6 c6 ?_⟩
        rw [c7]
        by_cases h0 : (s3.1 8).toInt = 0
        · rw [if_pos h0, if_pos ⟨h0, c1⟩]
        · rw [if_neg h0, if_neg (fun w => h0 w.1)]
      · omega
end UTU
