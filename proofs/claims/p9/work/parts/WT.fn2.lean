/-! ===== namesOfFunc once more: places of its own tokens alone ===== -/
section UTKN
variable {d : Nat} {s s' t z : yS} {B b h x y t0 G : Int} {K L P W : Int → Int} {p q : Nat} {a1 a2 a3 : Int32} {Ls pre : List Int} {m : Nat} {f φ : Int} {σ : RSt} {E : List (Int × Int)}
set_option maxHeartbeats 1000000 in
theorem x_202n (h30 : (s.1 30).toInt = b) (hb0 : 0 ≤ b) (hG : a1.toInt = G) (hGm : G = 60 * b + (m : Int)) (hh0 : 0 ≤ h) (hE : FEr B s (60 * b) E) (hm : m ≤ E.length) (hL1 : 0 ≤ lRf B s (f_5 K L false (0, t0)).2) (hL2 : ∀ u ∈ fPa K L false (0, t0), 0 ≤ lRf B s u) (hF : FNr K L B s G h x y t0) : Par d 202 [.ref 213, .int a1] s (fun v s' => v = none ∧ R8 s s' ∧ (s'.1 8).toInt = frst (lRf B s) (twF (wRf B s) K L (E.take m) t0) (s.1 8).toInt) := by
  obtain ⟨⟨k1, k2, k3, k4, k5⟩, k6, ⟨⟨h1, h2, h3, h4⟩, ⟨h5, h6, h7⟩, -⟩, -⟩ := hF
  cases d with
  | zero => exact Par_0
  | succ d =>
    have hG0 : 0 ≤ G := by omega
    have h56 : ∀ (i : Nat) (u : Int), (fPa K L false (0, t0))[i]? = some u → (s.2.1 256 G.toNat).toInt + 2 * (i : Int) = B + u := fun i u hu => by
      have hne : fPa K L false (0, t0) ≠ [] := fun w => by
        rw [w] at hu
        cases hu
      have e := k5 hne
      have : u = ((f_3 K L false (0, t0)).2 + 1) + 2 * (i : Int) := by
        unfold fPa at hu hne
        by_cases hc : t_k K 91 (f_3 K L false (0, t0)) = true
        · rw [if_pos hc] at hu
          exact pls_ef 7 _ i u hu
        · rw [if_neg hc] at hu
          cases hu
      omega
    unfold twF
    generalize hLP : fPa K L false (0, t0) = LP at *
    generalize hth : (f_5 K L false (0, t0)).2 = th at *
    generalize htn : (f_2 K L false (0, t0)).2 = tn at *
    generalize htv : (f_1 K L false (0, t0)).2 = tv at *
    refine pb_202 ?_
    unfold ub_202_0
    refine ⟨fun b1 b2 u => b1 = a1 ∧ R8 s u ∧ ∃ k : Nat, b2.toInt = (k : Int) ∧ 1 ≤ k ∧ (k ≤ LP.length ∨ k = 1) ∧ frst (lRf B s) (tw1 (wRf B s) (LP.take k) (LP.drop k)) (u.1 8).toInt = frst (lRf B s) (tw1 (wRf B s) [] LP) (s.1 8).toInt, ⟨rfl, R8_rf, 1, by decide, Nat.le_refl _, Or.inr rfl, ?_⟩, ?_⟩
    · cases LP with
      | nil => rfl
      | cons u l =>
        show _ = frst (lRf B s) (tw1 (wRf B s) ([] ++ [u]) l) (if (s.1 8).toInt = 0 ∧ anyW (wRf B s) [] u = true then 3 + 16 * lRf B s u else (s.1 8).toInt)
        rw [if_neg (fun w => by cases w.2)]
        rfl
    rintro b1 b2 u ⟨e1, g0, k, g1, g2, g3, g4⟩
    subst e1
    unfold ub_202_2
    have e55 : ∀ v : yS, R8 s v → (v.2.1 255 b1.toInt.toNat).toInt = (LP.length : Int) := fun v hv => by rw [hv.1, hG]; exact k3
    rw [e55 u g0]
    refine fun _ => ⟨fun w _ _ x1 hx1 => ?_, fun w => ?_⟩
    · have hx1' : x1.toInt = 60 * b := by rw [hx1, g0.2 30 (by decide), h30]
      have hd : LP.drop k = [] := List.drop_eq_nil_of_le (by omega)
      rw [hd] at g4
      refine x_202f (B := B) (G := G) (h := h) (f := 60 * b) (m := m) (E := E) (LP := LP) (LF := h_f K L (0, th + 1)) (LV := h_v K L (0, th + 1)) (tv := tv) (tn := tn) (th := th) (Φ := frst (lRf B s) (tw1 (wRf B s) [] LP ++ (th, anyF (wRf B s) (E.take m) tn th) :: (tw1 (wRf B s) LP (h_f K L (0, th + 1)) ++ tw1 (wRf B s) [tv] (h_v K L (0, th + 1)))) (s.1 8).toInt) hG (by rw [g0.1, hG]; exact k6) hG0 hh0 hx1' hGm (by omega) hm hE k1 k2 h1 k3 h56 h2 (YA_NTr h4) (YA_NTr h7) h5 hL1 g0 ?_ (fun v v1 v2 => ⟨rfl, v1, v2⟩)
      rw [frst_app (tw1 (wRf B s) [] LP), ← g4]
      rfl
    · have hk : k < LP.length := by omega
      have hu : LP[k]? = some LP[k] := List.getElem?_eq_getElem hk
      rw [List.drop_eq_getElem_cons hk] at g4
      have ew := wRf_8 (B := B) g0
      have e5k := h56 k _ hu
      refine ⟨fun c1 c2 c3 v => c1 = b1 ∧ c2 = b2 ∧ R8 s v ∧ ∃ j : Nat, c3.toInt = (j : Int) ∧ j ≤ k ∧ (v.1 8).toInt = flt B s (u.1 8).toInt (anyW (wRf B s) (LP.take j) LP[k]) LP[k], ⟨rfl, rfl, g0, 0, by decide, Nat.zero_le _, by rw [List.take_zero]; exact flt_n.symm⟩, ?_⟩
      rintro c1 c2 c3 v ⟨f1, f2, f3, j, f4, f5, f6⟩
      subst f1 f2
      have ewv := wRf_8 (B := B) f3
      have elv := lRf_8 (B := B) f3
      unfold ub_202_10
      have e256 : (v.2.1 256 c1.toInt.toNat).toInt = (s.2.1 256 G.toNat).toInt := by rw [f3.1, hG]
      refine ⟨fun w1 _ x1 hx1 => ?_, fun w1 _ _ x2 hx2 _ x3 hx3 _ _ _ x4 hx4 _ x5 hx5 _ => ?_⟩
      · have hj : j = k := by omega
        rw [hj] at f6
        refine ⟨rfl, f3, k + 1, by omega, by omega, Or.inl (by omega), ?_⟩
        rw [take_s hu, f6]
        exact g4
      · have hj : j < k := by omega
        have hv : LP[j]? = some LP[j] := List.getElem?_eq_getElem (by omega)
        have e5j := h56 j _ hv
        have ex3 : x3.toInt = B + LP[j] := by omega
        have ex5 : x5.toInt = B + LP[k] := by omega
        have q1 : (v.2.1 217 (B + LP[j]).toNat).toInt = wRf B s LP[j] := by rw [← ewv]; rfl
        have q2 : (v.2.1 217 (B + LP[k]).toNat).toInt = wRf B s LP[k] := by rw [← ewv]; rfl
        rw [ex3, ex5, q1, q2]
        have nxt : ∀ z : yS, R8 v z → (z.1 8).toInt = flt B s (v.1 8).toInt (decide (wRf B s LP[j] = wRf B s LP[k])) LP[k] → ub_202_47 (Par d) (fun b1' b2 u => b1' = c1 ∧ R8 s u ∧ ∃ k : Nat, b2.toInt = (k : Int) ∧ 1 ≤ k ∧ (k ≤ LP.length ∨ k = 1) ∧ frst (lRf B s) (tw1 (wRf B s) (LP.take k) (LP.drop k)) (u.1 8).toInt = frst (lRf B s) (tw1 (wRf B s) [] LP) (s.1 8).toInt) (fun c1' c2' c3 v => c1' = c1 ∧ c2' = c2 ∧ R8 s v ∧ ∃ j : Nat, c3.toInt = (j : Int) ∧ j ≤ k ∧ (v.1 8).toInt = flt B s (u.1 8).toInt (anyW (wRf B s) (LP.take j) LP[k]) LP[k]) c1 c2 c3 z (fun v s' => v = none ∧ R8 s s' ∧ (s'.1 8).toInt = frst (lRf B s) (tw1 (wRf B s) [] LP ++ (th, anyF (wRf B s) (E.take m) tn th) :: (tw1 (wRf B s) LP (h_f K L (0, th + 1)) ++ tw1 (wRf B s) [tv] (h_v K L (0, th + 1)))) (s.1 8).toInt) := by
          intro z z1 z2
          unfold ub_202_47
          intro _ x6 hx6
          refine ⟨rfl, rfl, R8_tr f3 z1, j + 1, by omega, by omega, ?_⟩
          rw [take_s hv, anyW_app, z2, f6, flt_or (hL2 _ (List.getElem_mem _))]
        refine ⟨fun w2 => nxt v R8_rf ?_, fun w2 _ _ x6 hx6 _ x7 hx7 => ?_⟩
        · rw [decide_eq_false w2]
          exact flt_n.symm
        · refine Par.imp (x_163t (B := B) (t := LP[k]) (by omega)) ?_
          rintro v9 s8 ⟨rfl, c4, c5⟩
          refine ⟨rfl, nxt s8 c4 ?_⟩
          rw [c5, elv, decide_eq_true w2]
          by_cases h0 : (v.1 8).toInt = 0
          · rw [if_pos h0, flt_y h0]
          · rw [if_neg h0, flt_f h0]
end UTKN
section WTN
variable {d : Nat} {s : yS} {B b h x y t : Int} {K L : Int → Int} {a2 : Int32} {F : List (Int × Int)} {m : Nat}
theorem x_231n (h30 : (s.1 30).toInt = b) (hb0 : 0 ≤ b) (h2 : a2.toInt = 100 + (m : Int)) (hh : 0 ≤ h) (hE : FEr B s (60 * b) F) (hm : m ≤ F.length) (hL1 : 0 ≤ lRf B s (f_5 K L false (0, t)).2) (hL2 : ∀ u ∈ fPa K L false (0, t), 0 ≤ lRf B s u) (hF : FNr K L B s (60 * b + (m : Int)) h x y t) : Par d 231 [.ref 213, .int 0, .int a2] s (fun v s' => v = none ∧ R8 s s' ∧ (s'.1 8).toInt = frst (lRf B s) (twF (wRf B s) K L (F.take m) t) (s.1 8).toInt) := by
  cases d with
  | zero => exact Par_0
  | succ d =>
    refine pb_231 ?_
    unfold ub_231_0
    rw [h30]
    intro _ x1 hx1 _ x2 hx2 _ x3 hx3 _ x4 hx4 _ x5 hx5
    refine ⟨fun w => absurd (by decide) w, fun _ => ⟨fun _ => ?_, fun w => by omega⟩⟩
    refine Par.imp (x_202n (G := 60 * b + (m : Int)) h30 hb0 (by omega) rfl hh hE hm hL1 hL2 hF) ?_
    rintro v s' ⟨rfl, c⟩
    unfold ub_231_56
    exact ⟨rfl, rfl, c⟩
end WTN
