/-! ===== the class: bindFunc, enterDecl ===== -/
/-- a func's struct, its fault -/
def fcd (K L W : Int → Int) (TN : List Int) (t : Int) : Int := fIx (wEq W (f_2 K L false (0, t)).2) 0 TN
def bdF (K L W ar kd : Int → Int) (TN : List Int) (t : Int) : Int := if fcd K L W TN t < 0 then 2 + 16 * L (f_2 K L false (0, t)).2 else if ¬ kd (fcd K L W TN t) = 1 then 6 + 16 * L (f_2 K L false (0, t)).2 else if ¬ ar (fcd K L W TN t) = ((fPa K L false (0, t)).length : Int) then 4 + 16 * L (f_2 K L false (0, t)).2 else 0
section WBD
variable {d P : Nat} {s s' s'' : zS} {a1 : Int32} {K L W ar kd : Int → Int} {n : Int} {TN : List Int}
theorem sls_n {K : Int → Int} {n t : Int} (h : wTk K n t) : 0 ≤ t ∧ t ≤ n := ⟨h.1, h.2.1⟩
set_option maxHeartbeats 1000000 in
theorem zs_129 (hP : P = 3 ∨ P = 39) (hX : TXp K L n) {f t : Int} (h1 : a1.toInt = f) (hf : 0 ≤ f ∧ f < 60) (q0 : fnc s P f 0 = (f_2 K L false (0, t)).2) (q4 : fnc s P f 4 = ((fPa K L false (0, t)).length : Int)) (hw : wTk K n (f_2 K L false (0, t)).2) (h14 : (s.1 P 14).toInt = 0) (hD : DBz K L W ar kd n P s TN) (hB : BDz s) : Zt 12 (wd P 129) 129 [.ref 83, .int a1] s (fun v s' => v = none ∧ (s'.1 P 14).toInt = bdF K L W ar kd TN t ∧ TAf P s s' ∧ (∀ b q, ¬ (b = P ∧ q = 14) → s'.1 b q = s.1 b q) ∧ (∀ r, ¬ r = P + 24 → ¬ r = P + 26 → s'.2 r = s.2 r) ∧ (bdF K L W ar kd TN t = 0 → (∀ i : Int, 0 ≤ i → fnc s' P i 2 = (if i = f then fcd K L W TN t else fnc s P i 2) ∧ fnc s' P i 9 = (if i = f then tyc s P (fcd K L W TN t) 5 else fnc s P i 9)) ∧ ∀ i : Int, 0 ≤ i → tyc s' P i 5 = if i = fcd K L W TN t then f else tyc s P i 5)) := by
  have n0 := zg_fn (s := s) (P := P) (a1 := a1) (c := 0) (k := 0) (by decide) (by decide) (by omega)
  rw [h1, q0] at n0
  have hn4 := hX.1
  have hLt := hX.2.2 _ hw.1 hw.2.1
  refine zc_129 (d := 3) hP ?_
  unfold v_129_0
  refine Zt.imp (Zt.mo (d := 10) (by omega) (zs_51 (d := 0) hP hD.2.1 hD.2.2.1 (by rw [n0]; exact hw))) ?_
  rintro v2 s3 ⟨hs3, x4, rfl, hx4⟩
  subst hs3
  refine ⟨x4, rfl, ?_⟩
  rw [n0] at hx4
  have hx : x4.toInt = fcd K L W TN t := hx4
  have hb := fIx_lt (p := wEq W (f_2 K L false (0, t)).2) (l := TN)
  have hTL := hD.2.2.1.2.1
  have hcb : -1 ≤ fcd K L W TN t ∧ fcd K L W TN t < (TN.length : Int) := hb
  have n4 := zg_fn (s := s3) (P := P) (a1 := a1) (c := 4) (k := 4) (by decide) (by decide) (by omega)
  rw [h1, q4] at n4
  have na : (zg s3 (P + 22) x4).toInt = ar (fcd K L W TN t) := by rw [zg_K, hD.1.2.2.2, hx]
  -- a fault
  have bad : ∀ y : Int32, (y.toInt = 2 ∨ y.toInt = 4 ∨ y.toInt = 6) → bdF K L W ar kd TN t = y.toInt + 16 * L (f_2 K L false (0, t)).2 → Zt (3 + 8) (wd P 38) 38 [.ref P, .int y, .int (zg s3 (P + 26) (a1 * 10 + 0))] s3 (fun v16 s17 => v16 = none ∧ v_129_83 (fun j => Zt (3 + 8) (wd P j) j) P a1 (zg s3 (P + 26) (a1 * 10 + 0)) x4 s17 (fun v s' => v = none ∧ (s'.1 P 14).toInt = bdF K L W ar kd TN t ∧ TAf P s3 s' ∧ (∀ b q, ¬ (b = P ∧ q = 14) → s'.1 b q = s3.1 b q) ∧ (∀ r, ¬ r = P + 24 → ¬ r = P + 26 → s'.2 r = s3.2 r) ∧ (bdF K L W ar kd TN t = 0 → (∀ i : Int, 0 ≤ i → fnc s' P i 2 = (if i = f then fcd K L W TN t else fnc s3 P i 2) ∧ fnc s' P i 9 = (if i = f then tyc s3 P (fcd K L W TN t) 5 else fnc s3 P i 9)) ∧ ∀ i : Int, 0 ≤ i → tyc s' P i 5 = if i = fcd K L W TN t then f else tyc s3 P i 5))) := by
    intro y hy hb2
    refine Zt.imp (Zt.mo (d := 9) (by omega) (zs_38b (d := 0) hP (by rw [n0, hD.1.2.1]; omega) (by omega))) ?_
    rintro v16 s17 ⟨rfl, hc⟩
    refine ⟨rfl, rfl, ?_⟩
    rcases hc with ⟨-, -, x, hxx, hs17⟩ | ⟨hc, -⟩
    · rw [n0, hD.1.2.1] at hxx
      rw [hs17]
      refine ⟨?_, TAf_14, fun b q hbq => by rw [zf_1, if_neg hbq], fun r _ _ => rfl, fun h0 => ?_⟩
      · rw [zf_1, if_pos ⟨rfl, rfl⟩, hxx, hb2]
      · rw [hb2] at h0
        omega
    · exact absurd ⟨h14, by omega⟩ hc
  refine ⟨fun y0 => ⟨fun y1 => ⟨fun y2 x6 hx6 x7 hx7 => ?_, fun y2 => ?_⟩, fun y1 => ?_⟩, fun y0 => ?_⟩
  · have hc0 : 0 ≤ fcd K L W TN t := by omega
    have zk := (zInf_k (kd := kd) hD.2.2.1 hD.2.2.2 (x := x4) (by omega)).2
    have hk1 : kd (fcd K L W TN t) = 1 := by
      rw [← hx]
      rcases Classical.em (kd x4.toInt = 1) with e | e
      · exact e
      · exact absurd (zk.mpr e) y1
    have hb0 : bdF K L W ar kd TN t = 0 := by
      unfold bdF
      rw [if_neg (by omega), if_neg (fun e => e hk1), if_neg (fun e => e (by rw [← na, ← n4]; exact y2))]
    have e6 := hx6 (by omega)
    have e7 := hx7 (by omega)
    refine ⟨by omega, fun s8 hs8 x9 hx9 x10 hx10 => ?_⟩
    have e9 := hx9 (by omega)
    have e10 := hx10 (by omega)
    have l26 : lim (P + 26) = 600 := by rcases hP with rfl | rfl <;> decide +kernel
    have l24 : lim (P + 24) = 144 := by rcases hP with rfl | rfl <;> decide +kernel
    have n5 : (zg s8 (P + 24) (x4 * 6 + 5)).toInt = tyc s3 P (fcd K L W TN t) 5 := by
      rw [zg_ty (s := s8) (P := P) (a1 := x4) (c := 5) (k := 5) (by decide) (by decide) (by omega), hx]
      unfold tyc
      have : s8.2 (P + 24) = s3.2 (P + 24) := by
        rw [hs8]
        unfold zt
        split
        · funext i
          rw [zr_2, if_neg (fun e => by omega)]
        · rfl
      rw [this]
    have hb5 : -1 ≤ tyc s3 P (fcd K L W TN t) 5 ∧ tyc s3 P (fcd K L W TN t) 5 ≤ 5000 := by
      unfold tyc
      rw [KI_p (by omega)]
      have hck : ckR (P + 24) = (-1, 5000) := by rcases hP with rfl | rfl <;> decide +kernel
      have hmem : P + 24 ∈ rowL := by rcases hP with rfl | rfl <;> decide +kernel
      have := hB.1 (P + 24) hmem (6 * fcd K L W TN t + 5).toNat
      rw [hck] at this
      exact this
    refine ⟨by rw [n5]; exact hb5, fun s12 hs12 x13 hx13 x14 hx14 => ?_⟩
    have e13 := hx13 (by omega)
    have e14 := hx14 (by omega)
    refine ⟨by omega, fun s15 hs15 => ?_⟩
    have z8 : s8 = zr s3 (P + 26) (10 * f + 2).toNat x4 := by rw [hs8, zt_in (by rw [l26]; omega), show x7.toInt = 10 * f + 2 by omega]
    have z12 : s12 = zr s8 (P + 26) (10 * f + 9).toNat (zg s8 (P + 24) (x4 * 6 + 5)) := by rw [hs12, zt_in (by rw [l26]; omega), show x10.toInt = 10 * f + 9 by omega]
    have z15 : s15 = zr s12 (P + 24) (6 * fcd K L W TN t + 5).toNat a1 := by rw [hs15, zt_in (by rw [l24]; omega), show x14.toInt = 6 * fcd K L W TN t + 5 by omega]
    have F : TAf P s3 s15 := by
      have F8 : TAf P s3 s8 := by rw [hs8]; exact TAf_z (Or.inr (Or.inl ⟨rfl, by omega⟩))
      have F12 : TAf P s8 s12 := by rw [hs12]; exact TAf_z (Or.inr (Or.inl ⟨rfl, by omega⟩))
      have F15 : TAf P s12 s15 := by rw [hs15]; exact TAf_z (Or.inr (Or.inr ⟨rfl, by omega⟩))
      exact TAf_tr (TAf_tr F8 F12) F15
    have f1 : s15.1 = s3.1 := by rw [z15, zr_1, z12, zr_1, z8, zr_1]
    unfold v_129_83
    refine ⟨rfl, by rw [f1, h14, hb0], F, fun b q _ => by rw [f1], fun r r1 r2 => ?_, fun _ => ⟨fun i hi => ?_, fun i hi => ?_⟩⟩
    · funext i
      rw [z15, zr_2, if_neg (fun e => r1 e.1), z12, zr_2, if_neg (fun e => r2 e.1), z8, zr_2, if_neg (fun e => r2 e.1)]
    · have c26 : ∀ x : Nat, s15.2 (P + 26) x = if x = (10 * f + 9).toNat then zg s8 (P + 24) (x4 * 6 + 5) else if x = (10 * f + 2).toNat then x4 else s3.2 (P + 26) x := fun x => by
        rw [z15, zr_2, if_neg (fun e => by omega), z12, zr_2]
        by_cases ex1 : x = (10 * f + 9).toNat
        · rw [if_pos ⟨rfl, ex1⟩, if_pos ex1]
        · rw [if_neg (fun e => ex1 e.2), if_neg ex1, z8, zr_2]
          by_cases ex2 : x = (10 * f + 2).toNat
          · rw [if_pos ⟨rfl, ex2⟩, if_pos ex2]
          · rw [if_neg (fun e => ex2 e.2), if_neg ex2]
      constructor
      · unfold fnc
        rw [KI_p (by omega), c26, if_neg (by omega)]
        by_cases ei : i = f
        · rw [if_pos ei, if_pos (by omega)]
          exact hx
        · rw [if_neg ei, if_neg (by omega), KI_p (by omega)]
      · unfold fnc
        rw [KI_p (by omega), c26]
        by_cases ei : i = f
        · rw [if_pos ei, if_pos (by omega)]
          exact n5
        · rw [if_neg ei, if_neg (by omega), if_neg (by omega), KI_p (by omega)]
    · unfold tyc
      rw [KI_p (by omega), z15, zr_2]
      by_cases ei : i = fcd K L W TN t
      · rw [if_pos ei, if_pos ⟨rfl, by omega⟩]
        exact h1
      · rw [if_neg ei, if_neg (fun e => by omega), z12, zr_2, if_neg (fun e => by omega), z8, zr_2, if_neg (fun e => by omega), KI_p (by omega)]
  · refine bad 4 (Or.inr (Or.inl (by decide))) ?_
    have zk := (zInf_k (kd := kd) hD.2.2.1 hD.2.2.2 (x := x4) (by omega)).2
    have hk1 : kd (fcd K L W TN t) = 1 := by
      rw [← hx]
      rcases Classical.em (kd x4.toInt = 1) with e | e
      · exact e
      · exact absurd (zk.mpr e) y1
    unfold bdF
    rw [if_neg (by omega), if_neg (fun e => e hk1), if_pos (fun e => y2 (by rw [na, n4]; exact e))]
    rfl
  · refine bad 6 (Or.inr (Or.inr (by decide))) ?_
    have zk := (zInf_k (kd := kd) hD.2.2.1 hD.2.2.2 (x := x4) (by omega)).2
    unfold bdF
    rw [if_neg (by omega), if_pos (by rw [← hx]; exact zk.mp y1)]
    rfl
  · refine bad 2 (Or.inl (by decide)) ?_
    unfold bdF
    rw [if_pos (by omega)]
    rfl
/-- enterDecl -/
theorem zs_130 (hP : P = 3 ∨ P = 39) (h1 : -100 ≤ a1.toInt ∧ a1.toInt ≤ 100) : Zt (d + 10) (wd P 130) 130 [.ref 83, .int a1] s (fun v s' => v = none ∧ s'.2 = s.2 ∧ (∀ b q, ¬ (b = 75 ∧ (q = 4 ∨ q = 5 ∨ q = 6)) → s'.1 b q = s.1 b q) ∧ (0 ≤ a1.toInt → (s'.1 75 4).toInt = a1.toInt ∧ (s'.1 75 5).toInt = tyc s P a1.toInt 2) ∧ (a1.toInt < 0 → (s'.1 75 4).toInt = fnc s P (-1 - a1.toInt) 2 ∧ (s'.1 75 5).toInt = fnc s P (-1 - a1.toInt) 3)) := by
  have en : ∀ (x y : Int32), Zt 9 (wd P 82) 82 [.ref 75, .int x, .int y, .int (-1)] s (fun v s' => v = none ∧ s'.2 = s.2 ∧ (∀ b q, ¬ (b = 75 ∧ (q = 4 ∨ q = 5 ∨ q = 6)) → s'.1 b q = s.1 b q) ∧ s'.1 75 4 = x ∧ s'.1 75 5 = y) := by
    intro x y
    refine zc_82 (d := 0) hP ?_
    unfold v_82_0
    intro s1 hs1 s2 hs2 s3 hs3
    rw [hs3, hs2, hs1]
    refine ⟨rfl, rfl, fun b q hbq => ?_, ?_, ?_⟩
    · rw [zf_1, if_neg (fun e => hbq (by omega)), zf_1, if_neg (fun e => hbq (by omega)), zf_1, if_neg (fun e => hbq (by omega))]
    · rw [zf_1, if_neg (fun e => absurd e.2 (by decide)), zf_1, if_neg (fun e => absurd e.2 (by decide)), zf_1, if_pos ⟨rfl, rfl⟩]
    · rw [zf_1, if_neg (fun e => absurd e.2 (by decide)), zf_1, if_pos ⟨rfl, rfl⟩]
  refine zc_130 (d := d + 1) hP ?_
  unfold v_130_0
  refine ⟨fun y0 => ?_, fun y0 x4 hx4 => ?_⟩
  · refine Zt.imp (Zt.mo (d := 9) (by omega) (en _ _)) ?_
    rintro v2 s3 ⟨rfl, p1, p2, p3, p4⟩
    refine ⟨rfl, rfl, p1, p2, fun _ => ⟨by rw [p3], ?_⟩, fun y1 => absurd y0 (by omega)⟩
    rw [p4, zg_ty (s := s) (P := P) (a1 := a1) (c := 2) (k := 2) (by decide) (by decide) (by omega)]
  · have e4 := hx4 (by omega)
    refine Zt.imp (Zt.mo (d := 9) (by omega) (en _ _)) ?_
    rintro v7 s8 ⟨rfl, p1, p2, p3, p4⟩
    refine ⟨rfl, rfl, p1, p2, fun y1 => absurd y1 y0, fun _ => ⟨?_, ?_⟩⟩
    · rw [p3, zg_fn (s := s) (P := P) (a1 := x4) (c := 2) (k := 2) (by decide) (by decide) (by omega), e4]
    · rw [p4, zg_fn (s := s) (P := P) (a1 := x4) (c := 3) (k := 3) (by decide) (by decide) (by omega), e4]
end WBD
