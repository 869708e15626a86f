/-! ===== typeAssert ===== -/
section TAS
variable {own : Nat → Nat × Nat} {b n W N T F H S0 : Nat} {G : PG} {fo : Option Nat} {m S O P E : Nat} {s : yS}
/-- the end: is -/
theorem as101 {d p lo hi e a y S1 O1 P1 S2 P2 P3 : Nat} {A0 L : List Nat} {a1 a2 a3 : Int32} {s1 u : yS} (hlo : lo ≤ e) (hehi : e < hi) (hy12 : y < 12006) (hy : (s.2.1 229 e).toInt = (y : Int)) (hey : e < y) (hyhi : y < hi) (hw : (s.2.1 221 e).toInt = 5) (ha : (s.2.1 227 e).toInt = (a : Int)) (hba : (s.2.1 228 a).toInt = (e : Int)) (hpt : 4002 * (b : Int) ≤ (s.2.1 223 e).toInt ∧ (s.2.1 223 e).toInt < 4002 * (b : Int) + n) (F1 : TFr tK b lo e S P E O s s1) (Fu : TFr tK b e hi S1 P1 E O1 s1 u) (f1 : f8 s s1) (fu : f8 s1 u) (q4 : S ≤ S1) (q6 : O ≤ O1) (q8 : P ≤ P1) (hS1P : S1 ≤ P1) (a7 : wER G H b n fo m p lo e a s1 S1 O1 A0) (u64 : (u.1 64).toInt = (P3 : Int)) (u65 : (u.1 65).toInt = (S2 : Int)) (u85 : (u.1 85).toInt = (O1 : Int)) (hS12 : S1 ≤ S2) (hS2 : S2 ≤ S + (hi - lo)) (hO1 : O1 ≤ O + 60 * cM s lo hi) (hP3 : P ≤ P3) (hP3' : P3 ≤ P + 130 * (p + 2)) (hSP : S2 ≤ P3) (hwT : (u.1 8).toInt = 0 → wT G b (scX G fo) S2 u y L ∧ L.length ≤ 60) : w_228_101 (Tot (d + 1)) a1 a2 a3 (s.2.1 229 e) u (fun v s' => v = none ∧ TEQ b lo hi S O P E (130 * (p + 2)) (wER G H b n fo m (p + 1) lo hi e) s s') := by
  have Fw : TFr tK b lo hi S P E O s u := TF_tr (TF_mo F1 (fun _ w => w) (Nat.le_refl _) (Nat.le_of_lt hehi) (Nat.le_refl _) (Nat.le_refl _) (Nat.le_refl _) (Nat.le_refl _)) Fu (fun _ w => w) hlo (Nat.le_refl _) q4 q8 (Nat.le_refl _) q6
  unfold w_228_101
  rw [show (s.2.1 229 e).toInt.toNat = y by omega]
  refine ⟨by omega, by omega, ?_⟩
  refine Tot.imp (Tot.mono (by omega) (s_216 (d := 0))) ?_
  rintro v s4 ⟨rfl, rfl⟩
  refine ⟨rfl, rfl, TF_sf (TF_sf Fw (by decide)) (by decide), ⟨fu.1, fun q => f1.2 (fu.2 q)⟩, S2, O1, P3, u64, u65, u85, Nat.le_trans q4 hS12, hS2, q6, hO1, hP3, hP3', fun q => ?_⟩
  have q : (u.1 8).toInt = 0 := q
  obtain ⟨hT, hL6⟩ := hwT q
  obtain ⟨pp, ll, n1, n2, n3, n4, n5, n6⟩ := id hT
  obtain ⟨m1, m2, m3, m4, m5⟩ := id n1
  have hLl : L.length = ll := by rw [← n4, seg_len]
  refine ⟨L, pp, m2, by rw [hLl]; exact m3, by rw [hLl]; refine Eq.trans (seg_2 (s := u) ?_) n4; rfl, Or.inl (by omega), by omega, ?_⟩
  have goal : wER G H b n fo m (p + 1) lo hi e u S2 O1 L := by
    refine ⟨hehi, a, A0, by rw [TF_row Fw (by decide)]; exact ha, by rw [TF_row Fw (by decide)]; exact hba, wER_CA (TF_CA Fu (Or.inl (Nat.le_refl _)) hS1P) hS12 (Nat.le_refl _) a7, Or.inr (Or.inl ⟨by rw [TF_row Fw (by decide)]; exact hw, y, by rw [TF_row Fw (by decide)]; exact hy, hey, hyhi, hT, by rw [TF_row Fw (by decide)]; exact hpt⟩), n5, hL6⟩
  exact wER_CA (s1 := u) (S1 := S2) (O1 := O1) (CA_2 rfl) (Nat.le_refl _) (Nat.le_refl _) goal
end TAS
