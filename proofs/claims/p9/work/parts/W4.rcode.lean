/-! ===== the reference: codeOfWord ===== -/
/-- the reference's code, its element: PARAMS of the type or func from b0 on, of the HEAD from b1 on -/
def rhC (b0 b1 c : Int) : Int := if c < 24 then c else if c < 30 then b0 + (c - 24) else if c < 36 then b1 + (c - 30) else 5000 + (c - 36)
def rhE (ar : Int → Int) (b0 b1 c : Int) : Int := 8 * rhC b0 b1 c + ar c
/-- the scope -/
def SCr (B b : Int) (s : yS) (hf tp : List Int) (b0 b1 : Int) : Prop := (s.1 75).toInt = b ∧ (((s.1 77).toInt < 0 ∧ hf = []) ∨ (0 ≤ (s.1 77).toInt ∧ (s.2.1 245 (s.1 77).toInt.toNat).toInt = (hf.length : Int) ∧ NTr B s 246 (6 * (s.1 77).toInt) hf ∧ b1 = 2000 + 6 * ((s.1 77).toInt - 204 * b))) ∧ ((0 ≤ (s.1 76).toInt ∧ (s.1 78).toInt < 0 ∧ (s.2.1 236 (s.1 76).toInt.toNat).toInt = (tp.length : Int) ∧ NTr B s 237 (6 * (s.1 76).toInt) tp ∧ b0 = 1000 + 6 * ((s.1 76).toInt - 24 * b)) ∨ ((s.1 76).toInt < 0 ∧ 0 ≤ (s.1 78).toInt ∧ (s.2.1 255 (s.1 78).toInt.toNat).toInt = (tp.length : Int) ∧ (∀ (i : Nat) (u : Int), tp[i]? = some u → (s.2.1 256 (s.1 78).toInt.toNat).toInt + 2 * (i : Int) = B + u) ∧ b0 = 4000 + 6 * ((s.1 78).toInt - 60 * b)) ∨ ((s.1 76).toInt < 0 ∧ (s.1 78).toInt < 0 ∧ tp = []))
/-- the types' names -/
def TNr (B b : Int) (s : yS) (TN : List Int) : Prop := (s.2.1 233 b.toNat).toInt = (TN.length : Int) ∧ NTr B s 234 (24 * b) TN
section WRC
variable {d : Nat} {s : yS} {B b b0 b1 n t : Int} {K L W : Int → Int} {a1 : Int32} {hf tp TN : List Int}
theorem wEq_r (hQ : WEQ K W B n s) (h1 : wTk K n t) {u : Int} (h2 : wTk K n u) : wEq W t u = decide (wRf B s u = wRf B s t) := by
  unfold wEq wRf
  have := hQ u t h2.1 h2.2.1 h1.1 h1.2.1 h2.2.2 h1.2.2
  by_cases e : W u = W t
  · rw [decide_eq_true e, decide_eq_true (this.mp e)]
  · rw [decide_eq_false e, decide_eq_false (fun q => e (this.mpr q))]
set_option maxHeartbeats 1000000 in
theorem x_203 (hQ : WEQ K W B n s) (hb0 : 0 ≤ b) (hC : SCr B b s hf tp b0 b1) (hT : TNr B b s TN) (h1 : wTk K n t) (hw : a1.toInt = wRf B s t) (wh : ∀ u ∈ hf, wTk K n u) (wt : ∀ u ∈ tp, wTk K n u) (wn : ∀ u ∈ TN, wTk K n u) (lh : hf.length ≤ 6) (lt : tp.length ≤ 6) (ln : TN.length ≤ 24) : Par d 203 [.ref 213, .int a1] s (fun v s' => s' = s ∧ ∃ r : Int32, v = some (.int r) ∧ r.toInt = rhC b0 b1 (cdOf W hf tp TN t)) := by
  cases d with
  | zero => exact Par_0
  | succ d =>
    obtain ⟨c1, c2, c3⟩ := hC
    obtain ⟨t1, t2⟩ := hT
    have hne : ∀ {l : List Int} (_ : ∀ u ∈ l, wTk K n u) {i : Nat} (hi : i < l.length), (¬ wRf B s l[i] = wRf B s t → wEq W t l[i] = false) ∧ (wRf B s l[i] = wRf B s t → wEq W t l[i] = true) := fun {l} hl {i} hi => by
      rw [wEq_r hQ h1 (hl _ (List.getElem_mem hi))]
      exact ⟨fun q => decide_eq_false q, fun q => decide_eq_true q⟩
    refine pb_203 ?_
    -- the types
    have thd : fIx (wEq W t) 0 hf = -1 → fIx (wEq W t) 0 tp = -1 → ∀ x : Int32, ub_203_111 (Par d) a1 x s (fun v s' => s' = s ∧ ∃ r : Int32, v = some (.int r) ∧ r.toInt = rhC b0 b1 (cdOf W hf tp TN t)) := by
      intro hn1 hn2 x
      have ec : cdOf W hf tp TN t = fIx (wEq W t) 0 TN := by
        unfold cdOf
        rw [hn1, hn2, if_neg (by decide), if_neg (by decide)]
      rw [ec]
      refine ⟨fun d1 d2 u => d1 = a1 ∧ u = s ∧ ∃ i : Nat, d2.toInt = (i : Int) ∧ i ≤ TN.length ∧ ∀ (j : Nat) (v : Int), j < i → TN[j]? = some v → wEq W t v = false, ⟨rfl, rfl, 0, by decide, Nat.zero_le _, fun j v hj _ => by omega⟩, ?_⟩
      rintro d1 d2 u ⟨f1, f2, i, g1, g2, g3⟩
      subst f1 f2
      unfold ub_203_113
      rw [c1]
      intro _
      rw [t1]
      refine ⟨fun w => ⟨rfl, -1, rfl, ?_⟩, fun w _ x1 hx1 _ x2 hx2 _ _ => ?_⟩
      · rw [fIx_no TN 0 (fun j v hv => g3 j v (by have := (List.getElem?_eq_some_iff.mp hv).1; omega) hv)]
        unfold rhC
        rw [if_pos (by decide)]
        decide
      · have hi : i < TN.length := by omega
        have hu : TN[i]? = some TN[i] := List.getElem?_eq_getElem hi
        have e1 := t2 i _ hu
        rw [show (24 * b + (i : Int)).toNat = x2.toInt.toNat by omega] at e1
        rw [e1, hw]
        obtain ⟨k1, k2⟩ := hne wn hi
        refine ⟨fun w4 _ x3 hx3 => ⟨rfl, rfl, i + 1, by omega, by omega, fun j v hj hv => ?_⟩, fun w4 => ⟨rfl, d2, rfl, ?_⟩⟩
        · by_cases ej : j = i
          · rw [ej, hu] at hv
            rw [← Option.some.inj hv]
            exact k1 w4
          · exact g3 j v (by omega) hv
        · rw [fIx_at TN 0 i _ hu (k2 w4) g3]
          unfold rhC
          rw [if_pos (by omega), g1]
          omega
    -- the PARAMS of a func
    have snd2 : fIx (wEq W t) 0 hf = -1 → ((s.1 76).toInt < 0 ∨ fIx (wEq W t) 0 tp = -1) → ∀ x : Int32, ub_203_84 (Par d) a1 x s (fun v s' => s' = s ∧ ∃ r : Int32, v = some (.int r) ∧ r.toInt = rhC b0 b1 (cdOf W hf tp TN t)) := by
      intro hn1 hn2 x
      unfold ub_203_84
      refine ⟨fun w => thd hn1 ?_ x, fun w => ?_⟩
      · rcases hn2 with h | h
        · rcases c3 with ⟨q, -⟩ | ⟨-, q, -⟩ | ⟨-, -, q⟩
          · omega
          · omega
          · rw [q]
            rfl
        · exact h
      · rcases c3 with ⟨-, q, -⟩ | ⟨q1, q2, q3, q4, q5⟩ | ⟨-, q, -⟩
        · omega
        · refine Par.imp (x_200 (B := B) (LP := tp) (t := t) q3 q4 hw) ?_
          rintro v2 s1 ⟨hs1, x3, rfl, hr⟩
          subst hs1
          refine ⟨x3, rfl, fun w3 => thd hn1 ?_ x, fun w3 => ?_⟩
          · rcases hr with ⟨r1, -⟩ | ⟨-, r1⟩
            · omega
            · refine fIx_no tp 0 (fun i u hu => ?_)
              have hi := (List.getElem?_eq_some_iff.mp hu).1
              have := r1 i u hu
              rw [wEq_r hQ h1 (wt u (List.mem_of_getElem? hu))]
              exact decide_eq_false this
          · rw [c1]
            intro _ x4 hx4 _ x5 hx5 _ x6 hx6 _ x7 hx7
            refine Par.imp (x_200 (B := B) (LP := tp) (t := t) q3 q4 hw) ?_
            rintro v9 s8 ⟨hs8, x10, rfl, hr2⟩
            refine ⟨x10, rfl, fun _ x11 hx11 => ⟨hs8, x11, rfl, ?_⟩⟩
            have same : x10.toInt = x3.toInt := by
              rcases hr with ⟨r1, r2, ⟨u, r3, r4⟩, r5⟩ | ⟨r1, -⟩
              · rcases hr2 with ⟨p1, p2, ⟨u', p3, p4⟩, p5⟩ | ⟨-, p1⟩
                · rcases Int.lt_trichotomy x10.toInt x3.toInt with h | h | h
                  · exact absurd p4 (r5 _ u' (by omega) p3)
                  · exact h
                  · exact absurd r4 (p5 _ u (by omega) r3)
                · exact absurd r4 (p1 _ u r3)
              · omega
            rcases hr with ⟨r1, r2, ⟨u, r3, r4⟩, r5⟩ | ⟨r1, -⟩
            · have ei : fIx (wEq W t) 0 tp = x3.toInt := by
                rw [fIx_at tp 0 x3.toInt.toNat u r3 (by rw [wEq_r hQ h1 (wt u (List.mem_of_getElem? r3))]; exact decide_eq_true r4) (fun j v hj hv => by
                  rw [wEq_r hQ h1 (wt v (List.mem_of_getElem? hv))]
                  exact decide_eq_false (r5 j v (by omega) hv))]
                omega
              unfold cdOf
              rw [hn1, ei, if_neg (by decide), if_pos r1]
              unfold rhC
              rw [if_neg (by omega), if_pos (by omega), q5]
              omega
            · omega
        · omega
    -- the PARAMS of a type
    have snd : fIx (wEq W t) 0 hf = -1 → ∀ x : Int32, ub_203_42 (Par d) a1 x s (fun v s' => s' = s ∧ ∃ r : Int32, v = some (.int r) ∧ r.toInt = rhC b0 b1 (cdOf W hf tp TN t)) := by
      intro hn1 x
      unfold ub_203_42
      by_cases h76 : (s.1 76).toInt < 0
      · refine ⟨fun d1 d2 u => d1 = a1 ∧ u = s, ⟨rfl, rfl⟩, ?_⟩
        rintro d1 d2 u ⟨f1, f2⟩
        subst f1 f2
        unfold ub_203_44
        exact ⟨fun _ => snd2 hn1 (Or.inl h76) d2, fun w => absurd h76 w⟩
      · rcases c3 with ⟨q1, q2, q3, q4, q5⟩ | ⟨q, -⟩ | ⟨q, -⟩
        · refine ⟨fun d1 d2 u => d1 = a1 ∧ u = s ∧ ∃ i : Nat, d2.toInt = (i : Int) ∧ i ≤ tp.length ∧ ∀ (j : Nat) (v : Int), j < i → tp[j]? = some v → wEq W t v = false, ⟨rfl, rfl, 0, by decide, Nat.zero_le _, fun j v hj _ => by omega⟩, ?_⟩
          rintro d1 d2 u ⟨f1, f2, i, g1, g2, g3⟩
          subst f1 f2
          unfold ub_203_44
          refine ⟨fun w => absurd w h76, fun _ _ => ?_⟩
          rw [q3]
          refine ⟨fun w => snd2 hn1 (Or.inr (fIx_no tp 0 (fun j v hv => g3 j v (by have := (List.getElem?_eq_some_iff.mp hv).1; omega) hv))) d2, fun w _ x1 hx1 _ x2 hx2 _ _ => ?_⟩
          have hi : i < tp.length := by omega
          have hu : tp[i]? = some tp[i] := List.getElem?_eq_getElem hi
          have e1 := q4 i _ hu
          rw [show (6 * (u.1 76).toInt + (i : Int)).toNat = x2.toInt.toNat by omega] at e1
          rw [e1, hw]
          obtain ⟨k1, k2⟩ := hne wt hi
          refine ⟨fun w4 _ x3 hx3 => ⟨rfl, rfl, i + 1, by omega, by omega, fun j v hj hv => ?_⟩, fun w4 => ?_⟩
          · by_cases ej : j = i
            · rw [ej, hu] at hv
              rw [← Option.some.inj hv]
              exact k1 w4
            · exact g3 j v (by omega) hv
          · rw [c1]
            intro _ x4 hx4 _ x5 hx5 _ x6 hx6 _ x7 hx7 _ x8 hx8
            refine ⟨rfl, x8, rfl, ?_⟩
            unfold cdOf
            rw [hn1, fIx_at tp 0 i _ hu (k2 w4) g3, if_neg (by decide), if_pos (by omega)]
            unfold rhC
            rw [if_neg (by omega), if_pos (by omega), q5]
            omega
        · exact absurd q h76
        · exact absurd q h76
    unfold ub_203_0
    by_cases h77 : (s.1 77).toInt < 0
    · rcases c2 with ⟨-, q⟩ | ⟨q, -⟩
      · refine ⟨fun d1 d2 u => d1 = a1 ∧ u = s, ⟨rfl, rfl⟩, ?_⟩
        rintro d1 d2 u ⟨f1, f2⟩
        subst f1 f2
        unfold ub_203_2
        exact ⟨fun _ => snd (by rw [q]; rfl) d2, fun w => absurd h77 w⟩
      · omega
    · rcases c2 with ⟨q, -⟩ | ⟨q1, q3, q4, q5⟩
      · exact absurd q h77
      · refine ⟨fun d1 d2 u => d1 = a1 ∧ u = s ∧ ∃ i : Nat, d2.toInt = (i : Int) ∧ i ≤ hf.length ∧ ∀ (j : Nat) (v : Int), j < i → hf[j]? = some v → wEq W t v = false, ⟨rfl, rfl, 0, by decide, Nat.zero_le _, fun j v hj _ => by omega⟩, ?_⟩
        rintro d1 d2 u ⟨f1, f2, i, g1, g2, g3⟩
        subst f1 f2
        unfold ub_203_2
        refine ⟨fun w => absurd w h77, fun _ _ => ?_⟩
        rw [q3]
        refine ⟨fun w => snd (fIx_no hf 0 (fun j v hv => g3 j v (by have := (List.getElem?_eq_some_iff.mp hv).1; omega) hv)) d2, fun w _ x1 hx1 _ x2 hx2 _ _ => ?_⟩
        have hi : i < hf.length := by omega
        have hu : hf[i]? = some hf[i] := List.getElem?_eq_getElem hi
        have e1 := q4 i _ hu
        rw [show (6 * (u.1 77).toInt + (i : Int)).toNat = x2.toInt.toNat by omega] at e1
        rw [e1, hw]
        obtain ⟨k1, k2⟩ := hne wh hi
        refine ⟨fun w4 _ x3 hx3 => ⟨rfl, rfl, i + 1, by omega, by omega, fun j v hj hv => ?_⟩, fun w4 => ?_⟩
        · by_cases ej : j = i
          · rw [ej, hu] at hv
            rw [← Option.some.inj hv]
            exact k1 w4
          · exact g3 j v (by omega) hv
        · rw [c1]
          intro _ x4 hx4 _ x5 hx5 _ x6 hx6 _ x7 hx7 _ x8 hx8
          refine ⟨rfl, x8, rfl, ?_⟩
          unfold cdOf
          rw [fIx_at hf 0 i _ hu (k2 w4) g3, if_pos (by omega)]
          unfold rhC
          rw [if_neg (by omega), if_neg (by omega), if_pos (by omega), q5]
          omega
end WRC
