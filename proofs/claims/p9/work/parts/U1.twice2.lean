/-! ===== twice ===== -/
def lRf (B : Int) (s : yS) (t : Int) : Int := (s.2.1 216 (B + t).toNat).toInt
section UTX
variable {d : Nat} {s s' s'' : yS} {B : Int} {L W : Int → Int} {p : Nat} {a2 a3 a4 : Int32} {Ls LP pre : List Int} {t φ : Int} {m : Nat} {f : Int}
theorem anyW_ap {l l' : List Int} : anyW W (l ++ l') t = (anyW W l t || anyW W l' t) := by
  unfold anyW
  rw [List.any_append]
theorem anyW_t : anyW W Ls t = true ↔ ∃ (i : Nat) (u : Int), Ls[i]? = some u ∧ W u = W t := by
  unfold anyW
  rw [List.any_eq_true]
  refine ⟨fun ⟨u, h1, h2⟩ => ?_, fun ⟨i, u, h1, h2⟩ => ⟨u, List.mem_of_getElem? h1, decide_eq_true h2⟩⟩
  obtain ⟨i, hi, h3⟩ := List.mem_iff_getElem.mp h1
  exact ⟨i, u, by rw [List.getElem?_eq_getElem hi, h3], of_decide_eq_true h2⟩
theorem anyW_f (h : ∀ (i : Nat) (u : Int), Ls[i]? = some u → ¬ W u = W t) : anyW W Ls t = false := by
  cases e : anyW W Ls t with
  | false => rfl
  | true =>
    obtain ⟨i, u, h1, h2⟩ := anyW_t.mp e
    exact absurd h2 (h i u h1)
theorem wRf_8 (h : R8 s s') : wRf B s' = wRf B s := by
  funext t
  unfold wRf
  rw [h.1]
theorem lRf_8 (h : R8 s s') : lRf B s' = lRf B s := by
  funext t
  unfold lRf
  rw [h.1]
theorem NTr_8 (h : R8 s s') (g : NTr B s p f Ls) : NTr B s' p f Ls := fun i t ht => by
  rw [h.1]
  exact g i t ht
/-- wrong, 3 -/
theorem x_163t {a : Int32} (ha : a.toInt = B + t) : Par d 163 [.ref 213, .int 3, .int a] s (fun v s' => v = none ∧ R8 s s' ∧ (s'.1 8).toInt = if (s.1 8).toInt = 0 then 3 + 16 * lRf B s t else (s.1 8).toInt) := by
  refine Par.imp x_163 ?_
  rintro v s' ⟨rfl, p1, p2, p3, p4⟩
  refine ⟨rfl, ⟨p1.1, fun k hk => ?_⟩, ?_⟩
  · by_cases h7 : k = 7
    · rw [h7, p2]
    · exact p1.2 k h7 hk
  · by_cases h0 : (s.1 8).toInt = 0
    · rw [if_pos h0, p4 h0, ha]
      rfl
    · rw [if_neg h0, p3 h0]
set_option maxHeartbeats 1000000 in
theorem x_199 (hp : p = 234 ∨ p = 237 ∨ p = 240 ∨ p = 244 ∨ p = 246 ∨ p = 249) (hN : NTr B s p a2.toInt Ls) (h3 : a3.toInt = (Ls.length : Int)) (h4 : (a4.toInt < 0 ∧ pre = []) ∨ (0 ≤ a4.toInt ∧ (s.2.1 255 a4.toInt.toNat).toInt = (pre.length : Int) ∧ ∀ (i : Nat) (u : Int), pre[i]? = some u → (s.2.1 256 a4.toInt.toNat).toInt + 2 * (i : Int) = B + u)) : Par d 199 [.ref 213, .ref p, .int a2, .int a3, .int a4] s (fun v s' => v = none ∧ R8 s s' ∧ (s'.1 8).toInt = frst (lRf B s) (tw1 (wRf B s) pre Ls) (s.1 8).toInt) := by
  cases d with
  | zero => exact Par_0
  | succ d =>
    obtain ⟨nn, hnn⟩ := rowp hp
    refine pb_199 ?_
    unfold ub_199_0
    refine ⟨fun b1 b2 b3 b4 b5 u => b1 = p ∧ b2 = a2 ∧ b3 = a3 ∧ b4 = a4 ∧ R8 s u ∧ ∃ i : Nat, b5.toInt = (i : Int) ∧ i ≤ Ls.length ∧ frst (lRf B s) (tw1 (wRf B s) (pre ++ Ls.take i) (Ls.drop i)) (u.1 8).toInt = frst (lRf B s) (tw1 (wRf B s) pre Ls) (s.1 8).toInt, ⟨rfl, rfl, rfl, rfl, R8_rf, 0, by decide, Nat.zero_le _, by rw [List.take_zero, List.append_nil, List.drop_zero]⟩, ?_⟩
    rintro b1 b2 b3 b4 b5 u ⟨e1, e2, e3, e4, g0, i, g1, g2, g3⟩
    subst e1 e2 e3 e4
    unfold ub_199_2
    refine ⟨fun w => ?_, fun w _ x1 hx1 => ⟨nn, hnn, fun _ => ?_⟩⟩
    · have hi : i = Ls.length := by omega
      rw [hi, List.drop_length] at g3
      exact ⟨rfl, g0, g3⟩
    · have hi : i < Ls.length := by omega
      have hu : Ls[i]? = some Ls[i] := List.getElem?_eq_getElem hi
      have er : (u.2.1 b1 x1.toInt.toNat).toInt = B + Ls[i] := by
        rw [g0.1, show x1.toInt.toNat = (b2.toInt + (i : Int)).toNat by rw [hx1, g1]]
        exact hN i _ hu
      rw [List.drop_eq_getElem_cons hi] at g3
      have ew := wRf_8 (B := B) g0
      have el := lRf_8 (B := B) g0
      -- on, behind this name
      have nxt : ∀ z : yS, R8 u z → (z.1 8).toInt = (if (u.1 8).toInt = 0 ∧ anyW (wRf B s) (pre ++ Ls.take i) Ls[i] = true then 3 + 16 * lRf B s Ls[i] else (u.1 8).toInt) → ub_199_38 (Par d) (fun b1' b2' b3' b4' b5 u => b1' = b1 ∧ b2' = b2 ∧ b3' = b3 ∧ b4' = b4 ∧ R8 s u ∧ ∃ i : Nat, b5.toInt = (i : Int) ∧ i ≤ Ls.length ∧ frst (lRf B s) (tw1 (wRf B s) (pre ++ Ls.take i) (Ls.drop i)) (u.1 8).toInt = frst (lRf B s) (tw1 (wRf B s) pre Ls) (s.1 8).toInt) b1 b2 b3 b4 b5 z (fun v s' => v = none ∧ R8 s s' ∧ (s'.1 8).toInt = frst (lRf B s) (tw1 (wRf B s) pre Ls) (s.1 8).toInt) := by
        intro z z1 z2
        unfold ub_199_38
        intro _ x2 hx2
        refine ⟨rfl, rfl, rfl, rfl, R8_tr g0 z1, i + 1, by omega, by omega, ?_⟩
        rw [take_s hu, ← List.append_assoc, z2]
        exact g3
      have bad : anyW (wRf B s) (pre ++ Ls.take i) Ls[i] = true → ∀ z : yS, z = u → ub_199_30 (Par d) (fun b1' b2' b3' b4' b5 u => b1' = b1 ∧ b2' = b2 ∧ b3' = b3 ∧ b4' = b4 ∧ R8 s u ∧ ∃ i : Nat, b5.toInt = (i : Int) ∧ i ≤ Ls.length ∧ frst (lRf B s) (tw1 (wRf B s) (pre ++ Ls.take i) (Ls.drop i)) (u.1 8).toInt = frst (lRf B s) (tw1 (wRf B s) pre Ls) (s.1 8).toInt) b1 b2 b3 b4 b5 z (fun v s' => v = none ∧ R8 s s' ∧ (s'.1 8).toInt = frst (lRf B s) (tw1 (wRf B s) pre Ls) (s.1 8).toInt) := by
        intro hb z hz
        subst hz
        unfold ub_199_30
        intro _ x2 hx2
        refine ⟨nn, hnn, fun _ => ?_⟩
        refine Par.imp (x_163t (B := B) (t := Ls[i]) (by rw [show x2.toInt.toNat = x1.toInt.toNat by omega]; exact er)) ?_
        rintro v3 s3 ⟨rfl, c1, c2⟩
        refine ⟨rfl, nxt s3 c1 ?_⟩
        rw [c2, el]
        by_cases h0 : (z.1 8).toInt = 0
        · rw [if_pos h0, if_pos ⟨h0, hb⟩]
        · rw [if_neg h0, if_neg (fun w => h0 w.1)]
      have good : anyW (wRf B s) (pre ++ Ls.take i) Ls[i] = false → ∀ z : yS, z = u → ub_199_38 (Par d) (fun b1' b2' b3' b4' b5 u => b1' = b1 ∧ b2' = b2 ∧ b3' = b3 ∧ b4' = b4 ∧ R8 s u ∧ ∃ i : Nat, b5.toInt = (i : Int) ∧ i ≤ Ls.length ∧ frst (lRf B s) (tw1 (wRf B s) (pre ++ Ls.take i) (Ls.drop i)) (u.1 8).toInt = frst (lRf B s) (tw1 (wRf B s) pre Ls) (s.1 8).toInt) b1 b2 b3 b4 b5 z (fun v s' => v = none ∧ R8 s s' ∧ (s'.1 8).toInt = frst (lRf B s) (tw1 (wRf B s) pre Ls) (s.1 8).toInt) := by
        intro hb z hz
        subst hz
        refine nxt z R8_rf ?_
        rw [if_neg (fun w => by rw [hb] at w; cases w.2)]
      refine Par.imp (x_198 (t := Ls[i]) (m := i) hp er (NTr_8 g0 hN) g1 (by omega)) ?_
      rintro v3 s2 ⟨hs2, x4, rfl, hr⟩
      rw [ew] at hr
      subst hs2
      refine ⟨x4, rfl, fun w4 => ?_, fun w4 => ?_⟩
      · rcases hr with ⟨-, c1⟩ | ⟨c1, -⟩
        · exact bad (by rw [anyW_ap, c1, Bool.or_true]) _ rfl
        · omega
      · rcases hr with ⟨c1, -⟩ | ⟨-, c1⟩
        · omega
        refine ⟨fun w5 => ?_, fun w5 _ x5 hx5 => ⟨nn, hnn, fun _ _ => ?_⟩⟩
        · rcases h4 with ⟨-, hq⟩ | ⟨hq, -⟩
          · refine good ?_ _ rfl
            rw [hq, List.nil_append]
            exact c1
          · omega
        · rcases h4 with ⟨hq, -⟩ | ⟨-, q1, q2⟩
          · omega
          refine Par.imp (x_200 (B := B) (LP := pre) (t := Ls[i]) (by rw [g0.1]; exact q1) (fun j v hv => by rw [g0.1]; exact q2 j v hv) ?_) ?_
          · rw [show x5.toInt.toNat = x1.toInt.toNat by omega, er]
            rfl
          rintro v7 s6 ⟨hs6, x8, rfl, hr8⟩
          rw [ew] at hr8
          refine ⟨x8, rfl, fun w8 => ?_, fun w8 => ?_⟩
          · refine good ?_ _ hs6
            rcases hr8 with ⟨c2, -⟩ | ⟨-, c2⟩
            · omega
            rw [anyW_ap, c1, Bool.or_false]
            exact anyW_f c2
          · refine bad ?_ _ hs6
            rcases hr8 with ⟨-, -, ⟨v, c2, c3⟩, -⟩ | ⟨c2, -⟩
            · rw [anyW_ap, anyW_t.mpr ⟨_, v, c2, c3⟩, Bool.true_or]
            · omega
end UTX
