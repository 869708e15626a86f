/-! ===== the class: settle, keep, addCode ===== -/
section ZZS
variable {d P : Nat} {s : zS} {ar : Int → Int} {A : List Int} {mk : Int} {a1 a2 a3 a4 a5 a6 : Int32}
/-- settle: the TYPE stands at mark, or stays where it is ahead of it or kept -/
theorem zs_91 (hP : P = 3 ∨ P = 39) (hA : KI (s.2 (P + 22)) = ar) (h6 : ∀ c, 0 ≤ ar c ∧ ar c ≤ 7) (hR : isR ar 1 A) (hl : A.length ≤ 60) (h1 : 0 ≤ a1.toInt ∧ a1.toInt ≤ 100000) (h2 : a2.toInt = mk) (h0 : 18 ≤ mk) (hw : WDz P s a1.toInt A) (hap : a1.toInt + (A.length : Int) ≤ mk ∨ 18738 ≤ a1.toInt ∨ (mk ≤ a1.toInt ∧ a1.toInt + (A.length : Int) ≤ 18738)) : Zt (d + 9 + 1) (wd P 91) 91 [.ref 75, .int a1, .int a2] s (fun v s' => PFz P mk s s' ∧ ∃ r : Int32, v = some (.int r) ∧ WDz P s' r.toInt A ∧ 0 ≤ r.toInt ∧ ((r = a1 ∧ APt mk r.toInt A.length ∧ (s'.1 75 3).toInt = mk) ∨ (r.toInt = mk ∧ mk + (A.length : Int) ≤ 18738 ∧ (s'.1 75 3).toInt = mk + (A.length : Int)))) := by
  have hlim : lim (P + 18) = 82938 := by rcases hP with rfl | rfl <;> decide +kernel
  have hne := isR_ne hR
  have hpos : 0 < A.length := by
    cases A with
    | nil => exact absurd rfl hne
    | cons c l => exact Nat.succ_pos _
  have f6 : (a1.toInt + (A.length : Int) ≤ mk ∨ 18738 ≤ a1.toInt) → v_91_6 (fun j => Zt (d + 1 + 8) (wd P j) j) P a1 a2 s (fun v s' => PFz P mk s s' ∧ ∃ r : Int32, v = some (.int r) ∧ WDz P s' r.toInt A ∧ 0 ≤ r.toInt ∧ ((r = a1 ∧ APt mk r.toInt A.length ∧ (s'.1 75 3).toInt = mk) ∨ (r.toInt = mk ∧ mk + (A.length : Int) ≤ 18738 ∧ (s'.1 75 3).toInt = mk + (A.length : Int)))) := by
    intro hq
    unfold v_91_6
    intro s1 hs1
    refine ⟨⟨fun r _ => by rw [hs1, zf_2], fun j _ => by rw [hs1, zf_2], fun c k hck => by rw [hs1, zf_1, if_neg hck]⟩, a1, rfl, ?_, h1.1, Or.inl ⟨rfl, hq, by rw [hs1, zf_1, if_pos ⟨rfl, rfl⟩]; exact h2⟩⟩
    intro i c hc
    rw [hs1, zf_2]
    exact hw i c hc
  rw [show d + 9 + 1 = d + 1 + 9 by omega]
  refine zc_91 hP ?_
  unfold v_91_0
  refine ⟨fun w => f6 (by omega), fun w => ⟨fun w2 => ?_, fun w2 => f6 (by omega)⟩⟩
  have hin : mk ≤ a1.toInt ∧ a1.toInt + (A.length : Int) ≤ 18738 := by omega
  refine Zt.imp (zs_83 (d := d) hP hA h6 hR (by omega) h1 hw) ?_
  rintro v1 s2 ⟨hs2, x3, rfl, hx3⟩
  subst hs2
  refine ⟨x3, rfl, fun x4 hx4 => ?_⟩
  have e4 : x4.toInt = (A.length : Int) := by
    rw [hx4 (by omega)]
    omega
  refine ⟨fun b1 b2 b3 b4 u => b1 = a1 ∧ b2 = a2 ∧ b3 = x4 ∧ u.1 = s2.1 ∧ (∀ r, ¬ r = P + 18 → u.2 r = s2.2 r) ∧ ∃ k : Nat, k ≤ A.length ∧ b4.toInt = (k : Int) ∧ (∀ j : Nat, ((j : Int) < mk ∨ mk + (k : Int) ≤ (j : Int)) → u.2 (P + 18) j = s2.2 (P + 18) j) ∧ WDz P u mk (A.take k), fun _ _ _ b4 _ => A.length - b4.toInt.toNat, ⟨rfl, rfl, rfl, rfl, fun _ _ => rfl, 0, Nat.zero_le _, by decide, fun _ _ => rfl, fun i c hc => by rw [List.take_zero] at hc; cases hc⟩, ?_⟩
  rintro b1 b2 b3 b4 u ⟨r1, r2, r3, u1, u2, k, k1, k2, k3, k4⟩
  subst r1 r2 r3
  unfold v_91_19
  refine ⟨fun w3 x1 hx1 s2' hs2' => ?_, fun w3 x3' hx3' x4' hx4' => ⟨Or.inr (by have := hx3' (by omega); omega), fun s5 hs5 x6 hx6 => ?_⟩⟩
  · have hk : k = A.length := by omega
    rw [hk, List.take_length] at k4
    have ex1 := hx1 (by omega)
    refine ⟨⟨fun r hr => by rw [hs2', zf_2]; exact u2 r hr, fun j hj => by rw [hs2', zf_2]; exact k3 j (by omega), fun c k hck => by rw [hs2', zf_1, if_neg hck, u1]⟩, b2, rfl, ?_, by omega, Or.inr ⟨h2, by omega, by rw [hs2', zf_1, if_pos ⟨rfl, rfl⟩]; omega⟩⟩
    rw [h2]
    intro i c hc
    rw [hs2', zf_2]
    exact k4 i c hc
  · have hk : k < A.length := by omega
    have ex3 := hx3' (by omega)
    have ex4 := hx4' (by omega)
    have ex6 := hx6 (by omega)
    obtain ⟨c, hc⟩ : ∃ c, A[k]? = some c := ⟨_, List.getElem?_eq_getElem hk⟩
    have vc : (zg u (P + 18) x4').toInt = c := by
      rw [zg_K, ex4, k2, ← hw k c hc, KI_p (by omega), KI_p (by omega), k3 _ (by omega)]
    have e5 : s5 = zr u (P + 18) x3'.toInt.toNat (zg u (P + 18) x4') := by
      rw [hs5]
      exact zt_in ⟨by omega, by rw [hlim]; omega⟩
    refine ⟨⟨rfl, rfl, rfl, by rw [e5, zr_1]; exact u1, fun r hr => ?_, k + 1, by omega, by omega, fun j hj => ?_, fun i q hq => ?_⟩, by show A.length - x6.toInt.toNat < A.length - b4.toInt.toNat; omega⟩
    · funext j
      rw [e5, zr_2, if_neg (fun w => hr w.1), u2 r hr]
    · rw [e5, zr_2, if_neg (fun w => by omega)]
      exact k3 j (by omega)
    · have hi := (List.getElem?_eq_some_iff.mp hq).1
      rw [List.length_take] at hi
      rw [List.getElem?_take, if_pos (by omega)] at hq
      rw [KI_p (by omega), e5, zr_2]
      by_cases ei : i = k
      · rw [if_pos ⟨rfl, by omega⟩, vc]
        rw [ei, hc] at hq
        exact Option.some.inj hq
      · rw [if_neg (fun w => by omega)]
        have := k4 i q (by rw [List.getElem?_take, if_pos (by omega)]; exact hq)
        rw [KI_p (by omega)] at this
        exact this
end ZZS
