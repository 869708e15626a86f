/-! ===== the reference: goThrough the second time ===== -/
section WNG
variable {d : Nat} {s u u' : yS} {B b n lo hi x y t : Int} {K L W ar kd : Int → Int} {TN : List Int} {a2 : Int32} {Ls : List Int}
set_option maxHeartbeats 2000000 in
theorem x_231w (hX : TXp K L n) (hb : 0 ≤ b) (hB : 0 ≤ B) (hlo : 0 ≤ lo) (hhi : hi ≤ n) (hDc : dcC K L lo hi Ls) (hA : ALr K L B s b (204 * b) x y Ls) (hR : RBh K L W ar kd n B b s TN) (hTN : ∀ v ∈ TN, wTk K n v) (hl : TN.length ≤ 24) (har : (∀ c : Int, 24 ≤ c → ar c = 0) ∧ ∀ c : Int, 0 ≤ ar c ∧ ar c ≤ 7) (h30 : (s.1 30).toInt = b) (h65 : 10 + 4100 * (B / 4002) ≤ (s.1 65).toInt) (hT100 : kTy K Ls ≤ 24) {k : Nat} (hg : RA3 K L W ar kd TN B b lo hi Ls s k u) (h0 : (u.1 8).toInt = 0) (h1 : Ls[k]? = some t) (h2 : (K t = 6 → a2.toInt = 100 + (kFn K (Ls.take k) : Int)) ∧ (¬ K t = 6 → a2.toInt = (kTy K (Ls.take k) : Int))) : Par d 231 [.ref 213, .int 1, .int a2] u (fun v s' => v = none ∧ RA3 K L W ar kd TN B b lo hi Ls s (k + 1) s') := by
  cases d with
  | zero => exact Par_0
  | succ d =>
    have fu := hg.2.1
    have rows : ∀ p, ¬ p = 231 → ¬ p = 232 → ¬ p = 264 → ¬ p = 261 → u.2.1 p = s.2.1 p := fun p z1 z2 z3 z4 => RWf_r fu z1 z2 z3 z4
    have Ru := RBh_W rows (fu.1 75 (by decide) (by decide) (by decide) (by decide) (by decide)) hR
    have u30 : (u.1 30).toInt = b := by rw [fu.1 30 (by decide) (by decide) (by decide) (by decide) (by decide)]; exact h30
    have u65 : 10 + 4100 * (B / 4002) ≤ (u.1 65).toInt := by
      have := (hg.2.2.2.2 h0).1
      omega
    obtain ⟨d1, d2, d3⟩ := dcC_at Ls k t lo hi hDc h1
    obtain ⟨aF, aT⟩ := hA k t h1
    obtain ⟨kl1, kl2, kl3⟩ := k_lt (K := K) (L := L) Ls k t h1
    refine pb_231 ?_
    unfold ub_231_0
    rw [u30]
    intro _ x1 hx1 _ x2 hx2 _ x3 hx3 _ x4 hx4 _ x5 hx5
    refine ⟨fun _ => ⟨fun q => absurd (by decide) q, fun _ => ⟨fun w1 => ?_, fun w1 => ?_⟩⟩, fun q => absurd q (by decide)⟩
    · have h6 : K t = 6 := by
        rcases Classical.em (K t = 6) with e | e
        · exact e
        · have := h2.2 e
          rw [if_neg e] at kl1
          omega
      have e2 := h2.1 h6
      obtain ⟨-, f2⟩ := aF h6
      have hpf := (d2 h6).1
      have hfn := fn_fw hpf
      obtain ⟨e1, e3, e4, e5⟩ := fn_end hpf
      obtain ⟨wn1, wn2, wn3⟩ := fn_wd hDc hlo hhi h1 h6
      obtain ⟨hw1, hw2⟩ := hd_wn e3
      have hd2 := (d2 h6).2
      have h4f := f4_le hfn.1
      have hpw := pa_wn hfn.1
      obtain ⟨f1', f2', f3', f4', f5', f6', f7', f8', f9', f10'⟩ := f7_fw hfn.1
      have e5' : (f_5 K L false (0, t)).2 = (f_4 K L false (0, t)).2 + 1 := by rw [f6']
      have hGx : x5.toInt = 60 * b + (kFn K (Ls.take k) : Int) := by omega
      have hS : SPr K ar n (h_f K L (0, (f_5 K L false (0, t)).2 + 1)) (fPa K L false (0, t)) TN (4000 + 6 * (60 * b + (kFn K (Ls.take k) : Int) - 60 * b)) (2000 + 6 * (204 * b + (kHd K L (Ls.take k) : Int) - 204 * b)) := by
        refine ⟨fun v hv => ?_, fun v hv => ?_, hTN, ⟨(hd_len e3).1, pa_len hfn.1, hl⟩, ⟨by omega, by omega⟩, har.1, har.2⟩
        · obtain ⟨z1, z2, z3⟩ := hw1 v hv
          have z2' : (f_5 K L false (0, t)).2 + 1 ≤ v := z2
          exact ⟨by omega, by omega, z1⟩
        · obtain ⟨z1, z2, z3⟩ := hpw v hv
          exact ⟨by omega, by omega, z1⟩
      have f2u := FNr_W rows f2
      have hpa : ∀ (i : Nat) (v : Int), (fPa K L false (0, t))[i]? = some v → (u.2.1 256 (60 * b + (kFn K (Ls.take k) : Int)).toNat).toInt + 2 * (i : Int) = B + v := fun i v hv => by
        have hne : fPa K L false (0, t) ≠ [] := fun e => by
          rw [e] at hv
          cases hv
        have q1 := f2u.1.2.2.2.2 hne
        have q2 : v = (f_3 K L false (0, t)).2 + 1 + 2 * (i : Int) := by
          unfold fPa at hv
          by_cases hc : t_k K 91 (f_3 K L false (0, t)) = true
          · rw [if_pos hc] at hv
            exact pls_ef 7 _ i v hv
          · rw [if_neg hc] at hv
            cases hv
        omega
      refine Par.imp (x_210 (s := u) (G := 60 * b + (kFn K (Ls.take k) : Int)) (h := 204 * b + (kHd K L (Ls.take k) : Int)) (t := t) (kd := kd) (W := W) hX hb hB hS hGx (by omega) (by omega) f2u wn1 (by omega) e3 (by omega) (fun v hv => by
        have z2' : (f_5 K L false (0, t)).2 + 1 ≤ v := (hw2 v hv).2.1
        omega) hpa (by omega) (fun _ => u65) Ru) ?_
      rintro v11 s10 ⟨rfl, g1, g2⟩
      refine ⟨rfl, rfl, RA3_s hlo hDc hg h0 h1 ⟨fun _ => ⟨rfl, rfl⟩, fun e => absurd h6 e⟩ ?_ (fun j hj => g2 _ (by omega))⟩
      obtain ⟨r1, r2, r3, r4, r5⟩ := g1
      refine ⟨r1, ?_, r3, fun h9 => ?_, r5⟩
      · rw [r2]
        unfold rFs
        rw [if_pos h6]
      · obtain ⟨r6, r7, r8, r9⟩ := r4 h9
        refine ⟨r6, r7, fun _ => ⟨?_, r9⟩, fun e => absurd h6 e⟩
        rw [show 60 * b + (kFn K (Ls.take k) : Int) - 60 * b = (kFn K (Ls.take k) : Int) by omega] at r8
        exact r8
    · have h6 : ¬ K t = 6 := fun e => by
        have := h2.1 e
        omega
      have e2 := h2.2 h6
      obtain ⟨-, f2⟩ := aT h6
      have hpt := (d3 h6).1
      have hty := ty_fw hpt
      have hd3 := (d3 h6).2
      have hfw := fo_wn hty.1
      have h5 := y5_le hty.1
      obtain ⟨p1, p2, p3⟩ := ty_pc (kd' := 0) (sg := 0) hpt
      have l2 : (y_5 K L false (0, t)).2 ≤ (p_ty K L false (0, t)).2 := by
        cases hst : tSt K L false (0, t) with
        | true => exact srtQ_le (p2 hst)
        | false => exact srtH_le (p3 hst)
      have hS : SPr K ar n [] (tFo K L false (0, t)) TN (1000 + 6 * (24 * b + (kTy K (Ls.take k) : Int) - 24 * b)) 2000 := by
        refine ⟨fun v hv => absurd hv List.not_mem_nil, fun v hv => ?_, hTN, ⟨by decide, fo_len hty.1, hl⟩, ⟨by omega, by decide⟩, har.1, har.2⟩
        obtain ⟨z1, z2, z3⟩ := hfw v hv
        exact ⟨by omega, by omega, z1⟩
      refine Par.imp (x_209 (s := u) (D := 24 * b + (kTy K (Ls.take k) : Int)) (h := 204 * b + (kHd K L (Ls.take k) : Int)) (t := t) (kd := kd) (W := W) hX hb hB hS (by omega) (by omega) (by omega) (TYr_W rows f2) (by omega) hpt (by omega) (fun hst v hv => ?_) (fun hst z hz => ?_) (by omega) (fun _ => u65) Ru) ?_
      · have hym : y_m K L false (0, t) = m_s K L := if_pos hst
        unfold tMe at hv
        rw [hym] at hv hty
        have := (ms_wn 7 _ hty.2.2.1 v hv).2.1
        omega
      · obtain ⟨j, hj, hj2⟩ := List.mem_iff_getElem.mp hz
        obtain ⟨y1, y2, y3, y4, -⟩ := srtH_at _ _ _ j z (p3 hst) (by rw [List.getElem?_eq_getElem hj, hj2])
        obtain ⟨hw1, hw2⟩ := hd_wn y2
        refine ⟨by omega, fun v hv => ?_, (hd_len y2).1, fun v hv => ?_⟩
        · obtain ⟨z1, z2, z3⟩ := hw1 v hv
          have z2' : z + 1 ≤ v := z2
          exact ⟨by omega, by omega, z1⟩
        · have z2' : z + 1 ≤ v := (hw2 v hv).2.1
          omega
      · rintro v13 s12 ⟨rfl, g1, g2⟩
        refine ⟨rfl, rfl, RA3_s hlo hDc hg h0 h1 ⟨fun e => absurd e h6, fun _ => ⟨rfl, rfl⟩⟩ ?_ (fun j hj => by rw [g2])⟩
        obtain ⟨r1, r2, r3, r4, r5⟩ := g1
        refine ⟨r1, ?_, r3, fun h9 => ?_, r5⟩
        · rw [r2]
          unfold rFs
          rw [if_neg h6]
        · obtain ⟨r6, r7, r8⟩ := r4 h9
          exact ⟨r6, r7, fun e => absurd e h6, fun _ => r8⟩
/-- both tell the same fault -/
theorem alFs_r (hDc : dcC K L lo hi Ls) (hlo : 0 ≤ lo) : ∀ k : Nat, k ≤ Ls.length → ffs (alFs K L W ar kd TN (hfS K L Ls) 0 (Ls.take k)) = ffs ((Ls.take k).flatMap (rFs K L W ar kd TN)) := by
  intro k
  induction k with
  | zero => exact fun _ => rfl
  | succ k ih =>
    intro hk
    obtain ⟨t', h1⟩ : ∃ t', Ls[k]? = some t' := ⟨_, List.getElem?_eq_getElem (by omega)⟩
    rw [alFs_s h1, ffs_app, ih (by omega), dFs_r hDc hlo h1, take_s h1, List.flatMap_append, ffs_app]
    have e : [t'].flatMap (rFs K L W ar kd TN) = rFs K L W ar kd TN t' := by
      show rFs K L W ar kd TN t' ++ [] = _
      rw [List.append_nil]
    rw [e]
end WNG
