/-! ===== code that makes sense: pure ===== -/
section ZTM
variable {K L W ar kd : Int → Int} {TN Ls : List Int} {n lo hi a t z c : Int} {S : Scp} {m : Nat} {ev : Int → Int × List Int} {cd : Int → List Ins} {A : List Int} {η : Nat → List Int}
theorem fTy_6 (h : PRm K L W ar kd n lo hi TN Ls) (c : Int) : (fTy K L W ar TN Ls c).length ≤ 6 := by
  unfold fTy
  split
  · rename_i t ht
    obtain ⟨i, h1, h6, -⟩ := tyL_inv Ls _ t ht
    rw [List.length_map]
    obtain ⟨d1, d2, d3⟩ := dcC_at Ls i t lo hi h.1.2.1 h1
    have q := (ty_fw (d3 h6).1).2.2.1
    refine lmb_lt (fun σ => ?_) 6 _ q
    unfold y_m
    split
    · exact m_st.1
    · exact m_st.2
  · exact Nat.zero_le _
theorem exT_0 (h : (exT K L W ar kd TN Ls S t).1 = 0) : (tlT K L (cdOf W S.1 S.2.1 TN) ar 10 t).1 = 0 := by
  unfold exT at h
  by_cases q : (tlT K L (cdOf W S.1 S.2.1 TN) ar 10 t).1 = 0
  · exact q
  · rw [if_neg q] at h
    exact h
theorem tg_of (h : PRm K L W ar kd n lo hi TN Ls) (l1 : S.1.length ≤ 6) (l2 : S.2.1.length ≤ 6) (hp : (p_t K L 10 false (0, t)).1 = 0) (h0 : (tlT K L (cdOf W S.1 S.2.1 TN) ar 10 t).1 = 0) : TGo ar (TN.length : Int) (S.2.1.length : Int) (S.1.length : Int) (wdC K L W ar TN S.1 S.2.1 t) := by
  have hnT := PR_nT h
  have hc := h.2.2.1.1
  obtain ⟨o1, o2, o3, o4, -⟩ := wdC_ok (K := K) (L := L) (W := W) (PR_ar h).1 l1 l2 (by omega) h0 hp
  exact ⟨o1, ⟨o2, o4⟩, o3⟩
theorem exP_0 {l : List (Int × List Int)} (h : exP K L W ar kd TN Ls S ev η l = 0) : ∀ p ∈ l, (ev p.1).1 = 0 := fun p hp => by
  rw [exP_ffs, ffs_0] at h
  have := h _ (List.mem_map.mpr ⟨p, hp, rfl⟩)
  unfold tkv at this
  by_cases q : (ev p.1).1 = 0
  · exact q
  · rw [if_neg q] at this
    exact this
/-- E of a list -/
theorem ciP_k {b o c' : Int} {N : Nat} {Zs : List (List Int)} {nT nX nY : Int} (hA : AOk K L m o c' a b) (hN : p_vn K L (p_e K L 11) o c' (0, a) = N) (hZ : N ≤ Zs.length) (h0 : exP K L W ar kd TN Ls S ev η ((exU K L a N).zip Zs) = 0) (ih : ∀ t, (p_e K L m false (0, t)).1 = 0 → (ev t).1 = 0 → cdK ar nT nX nY (cd t)) : cdK ar nT nX nY (ciP cd (exU K L a N)) := fun I hI => by
  unfold ciP at hI
  obtain ⟨u, hu, hI⟩ := List.mem_flatMap.mp hI
  obtain ⟨i, hi⟩ := List.getElem?_of_mem hu
  have hil := (List.getElem?_eq_some_iff.mp hi).1
  rw [exU_len] at hil
  rw [exU_at hil] at hi
  have eu : uS (nxE K L) (a + 1) i = u := Option.some.inj hi
  have hp := hA.2.2.1 i (by rw [hN]; exact hil)
  rw [eu] at hp
  obtain ⟨Z, hz⟩ : ∃ Z, Zs[i]? = some Z := ⟨_, List.getElem?_eq_getElem (by omega)⟩
  have hm : (u, Z) ∈ (exU K L a N).zip Zs := by
    refine List.mem_of_getElem? (i := i) ?_
    rw [List.getElem?_zip_eq_some]
    exact ⟨by rw [exU_at hil, eu], hz⟩
  exact ih u hp (exP_0 h0 _ hm) I hI
/-- what stands behind a point -/
theorem ciO_k (h : PRm K L W ar kd n lo hi TN Ls) (l1 : S.1.length ≤ 6) (l2 : S.2.1.length ≤ 6) (hm : m ≤ 10) (hP : POk K L m a) (h0 : (exO K L W ar kd TN Ls S ev a A).1 = 0) (ih : ∀ t, (p_e K L m false (0, t)).1 = 0 → (ev t).1 = 0 → cdK ar (TN.length : Int) (S.2.1.length : Int) (S.1.length : Int) (cd t)) : cdK ar (TN.length : Int) (S.2.1.length : Int) (S.1.length : Int) (ciO K L W ar TN Ls S cd a A) := by
  obtain ⟨-, hc, hn⟩ := hP
  unfold ciO
  unfold exO at h0
  by_cases w40 : K (a + 1) = 40
  · rw [if_pos w40] at h0 ⊢
    unfold exA at h0
    have hT : (exT K L W ar kd TN Ls S (a + 2)).1 = 0 := by
      by_cases q : kd (A.headD 0) = 1
      · rw [if_pos q] at h0
        have h0 : 6 + 16 * L a = 0 := h0
        omega
      · rw [if_neg q] at h0
        by_cases q2 : (exT K L W ar kd TN Ls S (a + 2)).1 = 0
        · exact q2
        · rw [if_neg q2] at h0
          exact h0
    intro I hI
    rw [List.mem_singleton.mp hI]
    refine ⟨fun _ => tg_of h l1 l2 (pt_10 hm (hc w40).1) (exT_0 hT), fun w => absurd (show (6 : Int) = 5 from w) (by decide), fun w => ?_⟩
    have w : (6 : Int) = 3 ∨ (6 : Int) = 5 := w
    omega
  · rw [if_neg w40] at h0 ⊢
    by_cases wm : K (a + 2) = 91 ∨ K (a + 2) = 40
    · rw [if_pos wm] at h0 ⊢
      obtain ⟨-, n1, n2, -⟩ := hn w40
      unfold exM at h0
      rcases so_pu (L := L) (W := W) (co := (ownT S.2.2.1 A).headD 0) (y := W (a + 1)) h with q | ⟨g, q1, q2, -⟩
      · rw [if_pos (by omega)] at h0
        have h0 : 2 + 16 * L (a + 1) = 0 := h0
        omega
      rw [q1, if_neg (by omega), Int.toNat_natCast] at h0
      obtain ⟨⟨k1, k2, k3⟩, -⟩ := hd_pu (L := L) (W := W) h q2
      obtain ⟨x, hx⟩ : ∃ x, x = hdd K L W ar TN Ls g := ⟨_, rfl⟩
      rw [← hx] at h0 k1 k2 k3
      unfold exC at h0
      by_cases c1 : exN K L (a + 1) = x.1 ∧ NM K L (a + 1) = x.2.1
      rotate_left
      · rw [if_neg c1] at h0
        have h0 : 4 + 16 * L (a + 1) = 0 := h0
        omega
      rw [if_pos c1] at h0
      by_cases c2 : ffs (exB K L W ar kd TN Ls S (exE K L W ar TN S (ownT S.2.2.1 A) (a + 1)) x.2.2 (exY K L (a + 1))) = 0
      rotate_left
      · rw [if_neg c2] at h0
        exact absurd h0 c2
      rw [if_pos c2] at h0
      by_cases c3 : exP K L W ar kd TN Ls S ev (exE K L W ar TN S (ownT S.2.2.1 A) (a + 1)) ((exU K L (mO K L (a + 1)).2 (NM K L (a + 1))).zip (x.2.2.drop x.1)) = 0
      rotate_left
      · rw [if_neg c3] at h0
        exact absurd h0 c3
      intro I hI
      rcases List.mem_append.mp hI with hI | hI
      · have hmo : mO K L (a + 1) = (0, (mO K L (a + 1)).2) := by
          by_cases q : K (a + 2) = 91
          · rw [(n1 q).2.2]
          · unfold mO
            rw [show a + 1 + 1 = a + 2 by omega, if_neg q]
        refine ciP_k (n2 wm) ?_ ?_ c3 ih I hI
        · unfold NM
          rw [← hmo]
        · rw [List.length_drop]
          omega
      · rw [List.mem_singleton.mp hI]
        refine ⟨fun w => ?_, fun _ => ⟨?_, fun B hB => ?_⟩, fun _ => ⟨?_, ?_⟩⟩
        · have w : (5 : Int) = 2 ∨ (5 : Int) = 6 := w
          omega
        · show ((exY K L (a + 1)).map _).length ≤ 6
          unfold exY
          rw [List.length_map, List.length_map, List.length_range]
          omega
        · obtain ⟨y, hy, rfl⟩ := List.mem_map.mp hB
          have hb := ffs_0.mp c2
          unfold exB at hb
          have t0 := hb _ (List.mem_append_left _ (List.mem_append_left _ (List.mem_map.mpr ⟨y, hy, rfl⟩)))
          unfold exY at hy
          obtain ⟨i, hi, rfl⟩ := List.mem_map.mp hy
          have hi := List.mem_range.mp hi
          have q : K (a + 2) = 91 := by
            by_cases q : K (a + 2) = 91
            · exact q
            · unfold exN at hi
              rw [show a + 1 + 1 = a + 2 by omega, if_neg q] at hi
              exact absurd hi (Nat.not_lt_zero _)
          have hiN : i < NT K L (a + 2) := by
            unfold exN at hi
            rw [show a + 1 + 1 = a + 2 by omega, if_pos q] at hi
            exact hi
          have hp := (n1 q).2.1 i hiN
          rw [show a + 3 = a + 1 + 2 by omega] at hp
          exact tg_of h l1 l2 (pt_10 hm hp) t0
        · show 0 ≤ ((NM K L (a + 1) : Nat) : Int)
          omega
        · show ((NM K L (a + 1) : Nat) : Int) ≤ 6
          omega
    · rw [if_neg wm]
      intro I hI
      rw [List.mem_singleton.mp hI]
      refine ⟨fun w => ?_, fun w => absurd (show (4 : Int) = 5 from w) (by decide), fun w => ?_⟩
      · have w : (4 : Int) = 2 ∨ (4 : Int) = 6 := w
        omega
      · have w : (4 : Int) = 3 ∨ (4 : Int) = 5 := w
        omega
/-- points one behind the other -/
theorem ciS_k (h : PRm K L W ar kd n lo hi TN Ls) (l1 : S.1.length ≤ 6) (l2 : S.2.1.length ≤ 6) (hm : m ≤ 10) (ih : ∀ t, (p_e K L m false (0, t)).1 = 0 → (ev t).1 = 0 → cdK ar (TN.length : Int) (S.2.1.length : Int) (S.1.length : Int) (cd t)) : ∀ (k q : Nat) (a : Int) (r : Int × List Int), p_ps K L (p_po K L (p_t K L m) (p_e K L m)) q (0, a) = (0, z) → (exS K L W ar kd TN Ls S ev k a r).1 = 0 → cdK ar (TN.length : Int) (S.2.1.length : Int) (S.1.length : Int) (ciS K L W ar kd TN Ls S ev cd k a r)
  | 0, _, _, _, _, _ => fun I hI => by cases hI
  | k + 1, q, a, r, hp, h0 => by
    by_cases c : r.1 = 0 ∧ K a = 46
    · have e1 : exS K L W ar kd TN Ls S ev (k + 1) a r = exS K L W ar kd TN Ls S ev k (aPt K L a) (exO K L W ar kd TN Ls S ev a r.2) := if_pos c
      have e2 : ciS K L W ar kd TN Ls S ev cd (k + 1) a r = ciO K L W ar TN Ls S cd a r.2 ++ ciS K L W ar kd TN Ls S ev cd k (aPt K L a) (exO K L W ar kd TN Ls S ev a r.2) := if_pos c
      rw [e1] at h0
      rw [e2]
      obtain ⟨p1, p2, p3⟩ := pps_u (m := m) hm q a hp 1 (fun j hj => by
        rw [show j = 0 by omega]
        exact c.2)
      have hPO := p1 0 (by omega)
      have hO : (exO K L W ar kd TN Ls S ev a r.2).1 = 0 := by
        by_cases w : (exO K L W ar kd TN Ls S ev a r.2).1 = 0
        · exact w
        · rw [exS_b _ _ _ w] at h0
          exact h0
      intro I hI
      rcases List.mem_append.mp hI with hI | hI
      · exact ciO_k h l1 l2 hm hPO hO ih I hI
      · exact ciS_k h l1 l2 hm ih k (q - 1) (aPt K L a) _ p3 h0 I hI
    · have e2 : ciS K L W ar kd TN Ls S ev cd (k + 1) a r = [] := if_neg c
      rw [e2]
      exact fun I hI => by cases hI
/-- the code of an E that has a TYPE -/
theorem ciE_k (h : PRm K L W ar kd n lo hi TN Ls) (l1 : S.1.length ≤ 6) (l2 : S.2.1.length ≤ 6) : ∀ m, m ≤ 10 → ∀ t, (p_e K L m false (0, t)).1 = 0 → (exE6 K L W ar kd TN Ls S m t).1 = 0 → cdK ar (TN.length : Int) (S.2.1.length : Int) (S.1.length : Int) (ciE K L W ar kd TN Ls S m t)
  | 0, _, _, _, _ => fun I hI => by cases hI
  | m + 1, hm, t, hp, h0 => by
    have ih := ciE_k h l1 l2 m (by omega)
    obtain ⟨⟨hK1, hHd⟩, u2⟩ := pe_u (m := m) (by omega) hp
    have h0 : (exS K L W ar kd TN Ls S (exE6 K L W ar kd TN Ls S m) 20 (aHd K L t) (exH K L W ar kd TN Ls S (exE6 K L W ar kd TN Ls S m) t)).1 = 0 := h0
    show cdK ar (TN.length : Int) (S.2.1.length : Int) (S.1.length : Int) (ciH K L W ar TN S (ciE K L W ar kd TN Ls S m) t ++ ciS K L W ar kd TN Ls S (exE6 K L W ar kd TN Ls S m) (ciE K L W ar kd TN Ls S m) 20 (aHd K L t) (exH K L W ar kd TN Ls S (exE6 K L W ar kd TN Ls S m) t))
    have hr : (exH K L W ar kd TN Ls S (exE6 K L W ar kd TN Ls S m) t).1 = 0 := by
      by_cases w : (exH K L W ar kd TN Ls S (exE6 K L W ar kd TN Ls S m) t).1 = 0
      · exact w
      · rw [exS_b _ _ _ w] at h0
        exact h0
    intro I hI
    rcases List.mem_append.mp hI with hI | hI
    · unfold ciH at hI
      unfold exH at hr
      by_cases hb : K (t + 1) = 123 ∨ K (t + 1) = 91
      · rw [if_pos hb] at hI hr
        obtain ⟨hp1, hAO⟩ := hHd hb
        unfold exL at hr
        by_cases c1 : (exT K L W ar kd TN Ls S t).1 = 0
        rotate_left
        · rw [if_neg c1] at hr
          exact absurd hr c1
        rw [if_pos c1] at hr
        by_cases c2 : kd ((exT K L W ar kd TN Ls S t).2.headD 0) = 1
        rotate_left
        · rw [if_neg c2] at hr
          have hr : 6 + 16 * L t = 0 := hr
          omega
        rw [if_pos c2] at hr
        by_cases c3 : NV K L (nxT K L t) = (fTy K L W ar TN Ls ((exT K L W ar kd TN Ls S t).2.headD 0)).length
        rotate_left
        · rw [if_neg c3] at hr
          have hr : 4 + 16 * L t = 0 := hr
          omega
        rw [if_pos c3] at hr
        have f6 := fTy_6 h ((exT K L W ar kd TN Ls S t).2.headD 0)
        unfold ciL at hI
        rcases List.mem_cons.mp hI with rfl | hI
        · refine ⟨fun _ => tg_of h l1 l2 (pt_10 (by omega) hp1) (exT_0 c1), fun w => absurd (show (2 : Int) = 5 from w) (by decide), fun w => ?_⟩
          have w : (2 : Int) = 3 ∨ (2 : Int) = 5 := w
          omega
        · rcases List.mem_append.mp hI with hI | hI
          · exact ciP_k hAO rfl (by rw [← c3]; exact Nat.le_refl _) hr ih I hI
          · rw [List.mem_singleton.mp hI]
            refine ⟨fun w => ?_, fun w => absurd (show (3 : Int) = 5 from w) (by decide), fun _ => ⟨?_, ?_⟩⟩
            · have w : (3 : Int) = 2 ∨ (3 : Int) = 6 := w
              omega
            · show 0 ≤ ((NV K L (nxT K L t) : Nat) : Int)
              omega
            · show ((NV K L (nxT K L t) : Nat) : Int) ≤ 6
              omega
      · rw [if_neg hb] at hI
        unfold ciV at hI
        rw [List.mem_singleton.mp hI]
        refine ⟨fun w => ?_, fun w => absurd (show (1 : Int) = 5 from w) (by decide), fun w => ?_⟩
        · have w : (1 : Int) = 2 ∨ (1 : Int) = 6 := w
          omega
        · have w : (1 : Int) = 3 ∨ (1 : Int) = 5 := w
          omega
    · exact ciS_k h l1 l2 (by omega) ih 20 20 (aHd K L t) _ u2 h0 I hI
theorem lvI_k {nT nX nY : Int} : inK ar nT nX nY lvI := ⟨fun w => by have w : (0 : Int) = 2 ∨ (0 : Int) = 6 := w; omega, fun w => absurd (show (0 : Int) = 5 from w) (by decide), fun w => by have w : (0 : Int) = 3 ∨ (0 : Int) = 5 := w; omega⟩
/-- all code of a program without a fault -/
theorem PC_of {mB : Int} (h : PRm K L W ar kd n lo hi TN Ls) (h0 : ffs (eFs K L W ar kd TN Ls mB) = 0) (hmP : (p_e K L 10 false (0, mB)).1 = 0) : PCk K L W ar kd TN Ls mB := by
  unfold eFs at h0
  have hz := ffs_0.mp h0
  refine ⟨fun g p hg => ?_, ?_⟩
  · have hF := hz _ (List.mem_append_left _ (List.mem_map.mpr ⟨p, List.mem_of_getElem? hg, rfl⟩))
    obtain ⟨h1, h6, -⟩ := fnQi_inv hg
    obtain ⟨d1, d2, -⟩ := dcC_at Ls p.1 p.2 lo hi h.1.2.1 h1
    have hfn := fn_fw (d2 h6).1
    have hd0 : (dHd K L p.2)[0]? = some (f_5 K L false (0, p.2)).2 := by
      unfold dHd
      rw [if_pos h6]
      rfl
    obtain ⟨-, ⟨l1, l2⟩, -⟩ := hd_fact h h1 hd0
    have tp6 := (tp_fact h h1).1
    have ed : dTp K L p.2 = fPa K L false (0, p.2) := if_pos h6
    rw [ed] at tp6
    have hpe := hfn.2.2.1
    have ef7 : f_7 K L false (0, p.2) = (0, (f_7 K L false (0, p.2)).2) := Prod.ext hfn.1 rfl
    rw [ef7] at hpe
    have hE : (exE6 K L W ar kd TN Ls (fnS K L W ar TN Ls p.1 p.2) 10 (f_7 K L false (0, p.2)).2).1 = 0 := by
      unfold fnF at hF
      by_cases q : (exE6 K L W ar kd TN Ls (fnS K L W ar TN Ls p.1 p.2) 10 (f_7 K L false (0, p.2)).2).1 = 0
      · exact q
      · rw [if_neg q] at hF
        exact hF
    have key := ciE_k (S := fnS K L W ar TN Ls p.1 p.2) h l1 tp6 10 (Nat.le_refl _) _ hpe hE
    intro I hI
    unfold fnC at hI
    rcases List.mem_append.mp hI with hI | hI
    · exact key I hI
    · rw [List.mem_singleton.mp hI]
      exact lvI_k
  · have hF := hz _ (List.mem_append_right _ (List.mem_singleton.mpr rfl))
    have key := ciE_k (S := mnS) h (Nat.zero_le _) (Nat.zero_le _) 10 (Nat.le_refl _) mB hmP hF
    intro I hI
    unfold mnC at hI
    rcases List.mem_append.mp hI with hI | hI
    · exact key I hI
    · rw [List.mem_singleton.mp hI]
      exact lvI_k
end ZTM
/-! ===== the TYPE of an E is a good one; so are the TYPES ahead of CALLS in the code: pure ===== -/
/-- what stands ahead of a CALL -/
def ckC (ar : Int → Int) (nT nX nY : Int) (C : List Ins) : Prop := ∀ I ∈ C, I.1 = 5 → TGo ar nT nX nY I.2.1
section ZVG
variable {K L W ar kd : Int → Int} {TN Ls : List Int} {n lo hi a t z c B b β0 β1 nT nX nY : Int} {S : Scp} {m : Nat} {ev : Int → Int × List Int} {cd : Int → List Ins} {A O M : List Int} {X Y : List (List Int)} {η : Nat → List Int}
theorem fTy_pu (h : PRm K L W ar kd n lo hi TN Ls) (hk : kd c = 1) : (0 ≤ c ∧ c < (TN.length : Int)) ∧ (fNm K L Ls c).length = (fTy K L W ar TN Ls c).length ∧ ∀ Z ∈ fTy K L W ar TN Ls c, isR ar 1 Z ∧ Z.length ≤ 60 ∧ cdW (ar c) 0 Z ∧ cdT (TN.length : Int) Z := by
  have hnT := PR_nT h
  have hl24 := h.2.2.1.1
  have hc : 0 ≤ c ∧ c < (TN.length : Int) := by
    rcases Int.lt_or_le c 0 with q | q
    · have := h.2.2.2.2.2.1 c (Or.inl q)
      omega
    · rcases Int.lt_or_le c (TN.length : Int) with q2 | q2
      · exact ⟨q, q2⟩
      · have := h.2.2.2.2.2.1 c (Or.inr (by omega))
        omega
  obtain ⟨i, t, h1, h6, ec⟩ := ty_dc (K := K) (Ls := Ls) hc.1 (by have := hc.2; omega)
  obtain ⟨k1, k2⟩ := h.2.2.2.2.1 i t h1 h6
  rw [← ec] at k1 k2
  have hst : tSt K L false (0, t) = true := by
    by_cases q : tSt K L false (0, t) = true
    · exact q
    · rw [if_neg q] at k2
      omega
  have hat : (tyL K Ls)[c.toNat]? = some t := by
    rw [ec, Int.toNat_natCast]
    exact tyL_at Ls i t h1 h6
  have eN : fNm K L Ls c = tMe K L false (0, t) := by
    unfold fNm
    rw [hat]
  have eT : fTy K L W ar TN Ls c = (tMe K L false (0, t)).map (fun v => wdC K L W ar TN [] (tFo K L false (0, t)) (v + 1)) := by
    unfold fTy
    rw [hat]
  have tp6 := (tp_fact h h1).1
  have ed : dTp K L t = tFo K L false (0, t) := if_neg h6
  rw [ed] at tp6
  obtain ⟨-, ff⟩ := ty_fact h h1 h6
  rw [eN, eT, List.length_map]
  refine ⟨hc, rfl, fun Z hZ => ?_⟩
  obtain ⟨v, hv, rfl⟩ := List.mem_map.mp hZ
  obtain ⟨-, f2, f3⟩ := ff hst v hv
  obtain ⟨o1, o2, o3, o4, -⟩ := wdC_ok (PR_ar h).1 (Nat.zero_le _) tp6 (by omega) f2 f3
  rw [← k1] at o3
  exact ⟨o1, o2, o3, o4⟩
theorem argT_g (h6 : ∀ c, 0 ≤ ar c ∧ ar c ≤ 7) (hO : TGo ar nT nX nY O) : ((argT ar O).length : Int) = ar (O.headD 0) ∧ ∀ v ∈ argT ar O, isR ar 1 v ∧ cdW nX nY v ∧ cdT nT v := by
  cases O with
  | nil => exact absurd rfl (isR_ne hO.1)
  | cons co l =>
    obtain ⟨p1, p2, p3⟩ := argT_ok h6 hO.1
    refine ⟨p3, fun v hv => ?_⟩
    have hin : ∀ c ∈ v, c ∈ co :: l := fun c hc => by
      refine List.mem_cons_of_mem _ ?_
      rw [← p1]
      exact List.mem_flatten.mpr ⟨v, hv, hc⟩
    exact ⟨p2 v hv, fun c hc => hO.2.2 c (hin c hc), fun c hc => hO.2.1.2 c (hin c hc)⟩
/-- a TYPE that is put -/
theorem sbs_g (h24 : ∀ c, 24 ≤ c → ar c = 0) (lX : X.length ≤ 6) (hX : ∀ v ∈ X, isR ar 1 v ∧ cdW nX nY v ∧ cdT nT v) (hY : ∀ v ∈ Y, isR ar 1 v ∧ cdW nX nY v ∧ cdT nT v) (hM : isR ar 1 M) (hM2 : cdW (X.length : Int) (Y.length : Int) M) (hM3 : cdT nT M) (hl : (sbs (eta X Y) M).length ≤ 60) : TGo ar nT nX nY (sbs (eta X Y) M) := by
  have pk := pOK_eta lX hX hY hM2
  exact ⟨sbs_R M 1 hM (fun c hc w => ⟨h24 c w, (pk c hc w).1⟩), ⟨hl, sbs_cdT pk hM3⟩, sbs_cdW pk hM2⟩
theorem own_g (hW : EWd K L W ar kd TN Ls n lo hi B b β0 β1 S) (hA : TGo ar (TN.length : Int) (S.2.1.length : Int) (S.1.length : Int) A) : TGo ar (TN.length : Int) (S.2.1.length : Int) (S.1.length : Int) (ownT S.2.2.1 A) := by
  cases A with
  | nil => exact absurd rfl (isR_ne hA.1)
  | cons c l =>
    unfold ownT
    have hc := hA.2.2 c List.mem_cons_self
    by_cases q : (c :: l).headD 0 < 24
    · rw [if_pos q]
      exact hA
    · rw [if_neg q]
      have q : ¬ c < 24 := q
      obtain ⟨o1, o2, o3, -⟩ := own_pu (c := c) hW ⟨by omega, hc.2.1⟩ (fun w => hc.2.2.1 (by omega) w) (fun w => hc.2.2.2 w)
      exact ⟨o1, o2, o3⟩
theorem exT_w (h : (exT K L W ar kd TN Ls S t).1 = 0) : (exT K L W ar kd TN Ls S t).2 = wdC K L W ar TN S.1 S.2.1 t := by
  have h0 := exT_0 h
  unfold exT
  rw [if_pos h0]
/-- what an E begins with -/
theorem exH_g (h : PRm K L W ar kd n lo hi TN Ls) (hV : VTy ar (TN.length : Int) S) (hVl : S.2.2.2.2.length = S.2.2.2.1.length) (l1 : S.1.length ≤ 6) (l2 : S.2.1.length ≤ 6) (hm : m ≤ 10) (hH : HOk K L m t) (h0 : (exH K L W ar kd TN Ls S ev t).1 = 0) : TGo ar (TN.length : Int) (S.2.1.length : Int) (S.1.length : Int) (exH K L W ar kd TN Ls S ev t).2 := by
  unfold exH at h0 ⊢
  by_cases hb : K (t + 1) = 123 ∨ K (t + 1) = 91
  · rw [if_pos hb] at h0 ⊢
    unfold exL at h0 ⊢
    by_cases c1 : (exT K L W ar kd TN Ls S t).1 = 0
    rotate_left
    · rw [if_neg c1] at h0
      exact absurd h0 c1
    rw [if_pos c1] at h0 ⊢
    by_cases c2 : kd ((exT K L W ar kd TN Ls S t).2.headD 0) = 1
    rotate_left
    · rw [if_neg c2] at h0
      have h0 : 6 + 16 * L t = 0 := h0
      omega
    rw [if_pos c2] at h0 ⊢
    by_cases c3 : NV K L (nxT K L t) = (fTy K L W ar TN Ls ((exT K L W ar kd TN Ls S t).2.headD 0)).length
    rotate_left
    · rw [if_neg c3] at h0
      have h0 : 4 + 16 * L t = 0 := h0
      omega
    rw [if_pos c3]
    show TGo ar (TN.length : Int) (S.2.1.length : Int) (S.1.length : Int) (exT K L W ar kd TN Ls S t).2
    rw [exT_w c1]
    exact tg_of h l1 l2 (pt_10 hm (hH.2 hb).1) (exT_0 c1)
  · rw [if_neg hb] at h0 ⊢
    unfold exV at h0 ⊢
    by_cases c1 : 0 ≤ fIx (wEq W t) 0 S.2.2.2.1
    · rw [if_pos c1]
      have hlt := fIx_lt (p := wEq W t) (l := S.2.2.2.1)
      have hi' : (fIx (wEq W t) 0 S.2.2.2.1).toNat < S.2.2.2.2.length := by omega
      show TGo ar (TN.length : Int) (S.2.1.length : Int) (S.1.length : Int) (S.2.2.2.2.getD (fIx (wEq W t) 0 S.2.2.2.1).toNat [])
      rw [List.getD_eq_getElem?_getD, List.getElem?_eq_getElem hi']
      exact hV _ (List.getElem_mem hi')
    · rw [if_neg c1] at h0
      have h0 : 2 + 16 * L t = 0 := h0
      omega
/-- what stands behind a point -/
theorem exO_g (hW : EWd K L W ar kd TN Ls n lo hi B b β0 β1 S) (l1 : S.1.length ≤ 6) (l2 : S.2.1.length ≤ 6) (hm : m ≤ 10) (hP : POk K L m a) (hA : TGo ar (TN.length : Int) (S.2.1.length : Int) (S.1.length : Int) A) (h0 : (exO K L W ar kd TN Ls S ev a A).1 = 0) : TGo ar (TN.length : Int) (S.2.1.length : Int) (S.1.length : Int) (exO K L W ar kd TN Ls S ev a A).2 := by
  have h := hW.1
  obtain ⟨ha, h24⟩ := PR_ar h
  obtain ⟨-, hc, hn⟩ := hP
  unfold exO at h0 ⊢
  by_cases w40 : K (a + 1) = 40
  · rw [if_pos w40] at h0 ⊢
    unfold exA at h0 ⊢
    by_cases q : kd (A.headD 0) = 1
    · rw [if_pos q] at h0
      have h0 : 6 + 16 * L a = 0 := h0
      omega
    rw [if_neg q] at h0 ⊢
    by_cases q2 : (exT K L W ar kd TN Ls S (a + 2)).1 = 0
    rotate_left
    · rw [if_neg q2] at h0
      exact absurd h0 q2
    rw [if_pos q2] at h0 ⊢
    have key : TGo ar (TN.length : Int) (S.2.1.length : Int) (S.1.length : Int) (exT K L W ar kd TN Ls S (a + 2)).2 := by
      rw [exT_w q2]
      exact tg_of h l1 l2 (pt_10 hm (hc w40).1) (exT_0 q2)
    obtain ⟨D, hD⟩ : ∃ D, D = (exT K L W ar kd TN Ls S (a + 2)).2 := ⟨_, rfl⟩
    rw [← hD] at h0 key ⊢
    have hb : mvD K L W ar kd TN Ls D (ownT S.2.2.1 D) (ownT S.2.2.1 A) = 0 ∨ mvD K L W ar kd TN Ls D (ownT S.2.2.1 D) (ownT S.2.2.1 A) = 7 ∨ mvD K L W ar kd TN Ls D (ownT S.2.2.1 D) (ownT S.2.2.1 A) = 9 := by
      unfold mvD
      exact mtV_b
    by_cases q3 : kd (D.headD 0) = 1 ∧ ¬ mvD K L W ar kd TN Ls D (ownT S.2.2.1 D) (ownT S.2.2.1 A) = 0
    · rw [if_pos q3] at h0
      have h0 : mvD K L W ar kd TN Ls D (ownT S.2.2.1 D) (ownT S.2.2.1 A) + 16 * L (a + 2) = 0 := h0
      have := q3.2
      omega
    · rw [if_neg q3]
      exact key
  · rw [if_neg w40] at h0 ⊢
    by_cases wm : K (a + 2) = 91 ∨ K (a + 2) = 40
    · rw [if_pos wm] at h0 ⊢
      obtain ⟨-, n1, n2, -⟩ := hn w40
      have hO := own_g hW hA
      unfold exM at h0 ⊢
      obtain ⟨O, hOe⟩ : ∃ O, O = ownT S.2.2.1 A := ⟨_, rfl⟩
      rw [← hOe] at h0 hO ⊢
      rcases so_pu (L := L) (W := W) (co := O.headD 0) (y := W (a + 1)) h with q | ⟨g, q1, q2, q3⟩
      · rw [if_pos (by omega)] at h0
        have h0 : 2 + 16 * L (a + 1) = 0 := h0
        omega
      rw [q1, if_neg (by omega), Int.toNat_natCast] at h0 ⊢
      obtain ⟨⟨k1, k2, k3⟩, kM, -⟩ := hd_pu (L := L) (W := W) h q2
      rw [q3] at kM
      obtain ⟨x, hx⟩ : ∃ x, x = hdd K L W ar TN Ls g := ⟨_, rfl⟩
      rw [← hx] at h0 k1 k2 k3 kM ⊢
      unfold exC at h0 ⊢
      by_cases c1 : exN K L (a + 1) = x.1 ∧ NM K L (a + 1) = x.2.1
      rotate_left
      · rw [if_neg c1] at h0
        have h0 : 4 + 16 * L (a + 1) = 0 := h0
        omega
      rw [if_pos c1] at h0 ⊢
      by_cases c2 : ffs (exB K L W ar kd TN Ls S (exE K L W ar TN S O (a + 1)) x.2.2 (exY K L (a + 1))) = 0
      rotate_left
      · rw [if_neg c2] at h0
        exact absurd h0 c2
      rw [if_pos c2] at h0 ⊢
      by_cases c3 : exP K L W ar kd TN Ls S ev (exE K L W ar TN S O (a + 1)) ((exU K L (mO K L (a + 1)).2 (NM K L (a + 1))).zip (x.2.2.drop x.1)) = 0
      rotate_left
      · rw [if_neg c3] at h0
        exact absurd h0 c3
      rw [if_pos c3] at h0 ⊢
      by_cases c4 : 60 < (sbs (exE K L W ar TN S O (a + 1)) (x.2.2.getD (x.1 + x.2.1) [])).length
      · rw [if_pos c4] at h0
        have h0 : 9 + 16 * L (a + 1) = 0 := h0
        omega
      rw [if_neg c4]
      show TGo ar (TN.length : Int) (S.2.1.length : Int) (S.1.length : Int) (sbs (eta (argT ar O) ((exY K L (a + 1)).map (fun y => wdC K L W ar TN S.1 S.2.1 y))) (x.2.2.getD (x.1 + x.2.1) []))
      have hlen : x.1 + x.2.1 < x.2.2.length := by omega
      have hM : x.2.2.getD (x.1 + x.2.1) [] ∈ x.2.2 := by
        rw [List.getD_eq_getElem?_getD, List.getElem?_eq_getElem hlen]
        exact List.getElem_mem hlen
      obtain ⟨m1, m2, m3, m4⟩ := kM _ hM
      obtain ⟨X1, X2⟩ := argT_g ha hO
      have hY : ∀ v ∈ (exY K L (a + 1)).map (fun y => wdC K L W ar TN S.1 S.2.1 y), TGo ar (TN.length : Int) (S.2.1.length : Int) (S.1.length : Int) v := fun v hv => by
        obtain ⟨y, hy, rfl⟩ := List.mem_map.mp hv
        have hb := ffs_0.mp c2
        unfold exB at hb
        have t0 := hb _ (List.mem_append_left _ (List.mem_append_left _ (List.mem_map.mpr ⟨y, hy, rfl⟩)))
        unfold exY at hy
        obtain ⟨i, hi, rfl⟩ := List.mem_map.mp hy
        have hi := List.mem_range.mp hi
        have q : K (a + 2) = 91 := by
          by_cases q : K (a + 2) = 91
          · exact q
          · unfold exN at hi
            rw [show a + 1 + 1 = a + 2 by omega, if_neg q] at hi
            exact absurd hi (Nat.not_lt_zero _)
        have hiN : i < NT K L (a + 2) := by
          unfold exN at hi
          rw [show a + 1 + 1 = a + 2 by omega, if_pos q] at hi
          exact hi
        have hp := (n1 q).2.1 i hiN
        rw [show a + 3 = a + 1 + 2 by omega] at hp
        exact tg_of h l1 l2 (pt_10 hm hp) t0
      have lY : ((exY K L (a + 1)).map (fun y => wdC K L W ar TN S.1 S.2.1 y)).length = x.1 := by
        unfold exY
        rw [List.length_map, List.length_map, List.length_range]
        exact c1.1
      have lX : (argT ar O).length ≤ 6 := by
        cases O with
        | nil => exact absurd rfl (isR_ne hO.1)
        | cons co l =>
          have := ar_le6 h (c := co) (hO.2.2 co List.mem_cons_self).1 (hO.2.1.2 co List.mem_cons_self)
          have X1 : ((argT ar (co :: l)).length : Int) = ar co := X1
          omega
      refine sbs_g h24 lX X2 (fun v hv => ⟨(hY v hv).1, (hY v hv).2.2, (hY v hv).2.1.2⟩) m2 (by rw [X1, lY]; exact m1) m4 ?_
      have c4' : ¬ 60 < (sbs (eta (argT ar O) ((exY K L (a + 1)).map (fun y => wdC K L W ar TN S.1 S.2.1 y))) (x.2.2.getD (x.1 + x.2.1) [])).length := c4
      omega
    · rw [if_neg wm] at h0 ⊢
      unfold exF at h0 ⊢
      by_cases c1 : kd (A.headD 0) = 1
      rotate_left
      · rw [if_neg c1] at h0
        have h0 : 6 + 16 * L a = 0 := h0
        omega
      rw [if_pos c1] at h0 ⊢
      by_cases c2 : 0 ≤ fIx (wEq W (a + 1)) 0 (fNm K L Ls (A.headD 0))
      rotate_left
      · rw [if_neg c2] at h0
        have h0 : 2 + 16 * L (a + 1) = 0 := h0
        omega
      rw [if_pos c2] at h0 ⊢
      obtain ⟨f1, f2, f3⟩ := fTy_pu h c1
      have hlt := fIx_lt (p := wEq W (a + 1)) (l := fNm K L Ls (A.headD 0))
      obtain ⟨Z, hZ⟩ : ∃ Z, Z = (fTy K L W ar TN Ls (A.headD 0)).getD (fIx (wEq W (a + 1)) 0 (fNm K L Ls (A.headD 0))).toNat [] := ⟨_, rfl⟩
      have hil : (fIx (wEq W (a + 1)) 0 (fNm K L Ls (A.headD 0))).toNat < (fTy K L W ar TN Ls (A.headD 0)).length := by omega
      have hZm : Z ∈ fTy K L W ar TN Ls (A.headD 0) := by
        rw [hZ, List.getD_eq_getElem?_getD, List.getElem?_eq_getElem hil]
        exact List.getElem_mem hil
      rw [← hZ] at h0 ⊢
      obtain ⟨z1, z2, z3, z4⟩ := f3 Z hZm
      by_cases c3 : 60 < (sbs (eta (argT ar A) []) Z).length
      · rw [if_pos c3] at h0
        have h0 : 9 + 16 * L (a + 1) = 0 := h0
        omega
      rw [if_neg c3]
      show TGo ar (TN.length : Int) (S.2.1.length : Int) (S.1.length : Int) (sbs (eta (argT ar A) []) Z)
      obtain ⟨X1, X2⟩ := argT_g ha hA
      have lX : (argT ar A).length ≤ 6 := by
        have := ar_le6 h (c := A.headD 0) f1.1 (fun _ => f1.2)
        omega
      exact sbs_g h24 lX X2 (fun v hv => by cases hv) z1 (by rw [X1]; exact z3) z4 (by omega)
/-- E of a list -/
theorem ciP_c {b o c' : Int} {N : Nat} {Zs : List (List Int)} {nT nX nY : Int} (hA : AOk K L m o c' a b) (hN : p_vn K L (p_e K L 11) o c' (0, a) = N) (hZ : N ≤ Zs.length) (h0 : exP K L W ar kd TN Ls S ev η ((exU K L a N).zip Zs) = 0) (ih : ∀ t, (p_e K L m false (0, t)).1 = 0 → (ev t).1 = 0 → ckC ar nT nX nY (cd t)) : ckC ar nT nX nY (ciP cd (exU K L a N)) := fun I hI => by
  unfold ciP at hI
  obtain ⟨u, hu, hI⟩ := List.mem_flatMap.mp hI
  obtain ⟨i, hi⟩ := List.getElem?_of_mem hu
  have hil := (List.getElem?_eq_some_iff.mp hi).1
  rw [exU_len] at hil
  rw [exU_at hil] at hi
  have eu : uS (nxE K L) (a + 1) i = u := Option.some.inj hi
  have hp := hA.2.2.1 i (by rw [hN]; exact hil)
  rw [eu] at hp
  obtain ⟨Z, hz⟩ : ∃ Z, Zs[i]? = some Z := ⟨_, List.getElem?_eq_getElem (by omega)⟩
  have hm : (u, Z) ∈ (exU K L a N).zip Zs := by
    refine List.mem_of_getElem? (i := i) ?_
    rw [List.getElem?_zip_eq_some]
    exact ⟨by rw [exU_at hil, eu], hz⟩
  exact ih u hp (exP_0 h0 _ hm) I hI
/-- points one behind the other -/
theorem exS_g (hW : EWd K L W ar kd TN Ls n lo hi B b β0 β1 S) (l1 : S.1.length ≤ 6) (l2 : S.2.1.length ≤ 6) (hm : m ≤ 10) (ihc : ∀ t, (p_e K L m false (0, t)).1 = 0 → (ev t).1 = 0 → ckC ar (TN.length : Int) (S.2.1.length : Int) (S.1.length : Int) (cd t)) : ∀ (k q : Nat) (a : Int) (r : Int × List Int), p_ps K L (p_po K L (p_t K L m) (p_e K L m)) q (0, a) = (0, z) → (exS K L W ar kd TN Ls S ev k a r).1 = 0 → (r.1 = 0 → TGo ar (TN.length : Int) (S.2.1.length : Int) (S.1.length : Int) r.2) → TGo ar (TN.length : Int) (S.2.1.length : Int) (S.1.length : Int) (exS K L W ar kd TN Ls S ev k a r).2 ∧ ckC ar (TN.length : Int) (S.2.1.length : Int) (S.1.length : Int) (ciS K L W ar kd TN Ls S ev cd k a r)
  | 0, _, _, r, _, h0, hr => ⟨hr h0, fun I hI => by cases hI⟩
  | k + 1, q, a, r, hp, h0, hr => by
    by_cases c : r.1 = 0 ∧ K a = 46
    · have e1 : exS K L W ar kd TN Ls S ev (k + 1) a r = exS K L W ar kd TN Ls S ev k (aPt K L a) (exO K L W ar kd TN Ls S ev a r.2) := if_pos c
      have e2 : ciS K L W ar kd TN Ls S ev cd (k + 1) a r = ciO K L W ar TN Ls S cd a r.2 ++ ciS K L W ar kd TN Ls S ev cd k (aPt K L a) (exO K L W ar kd TN Ls S ev a r.2) := if_pos c
      rw [e1] at h0 ⊢
      rw [e2]
      obtain ⟨p1, p2, p3⟩ := pps_u (m := m) hm q a hp 1 (fun j hj => by
        rw [show j = 0 by omega]
        exact c.2)
      have hPO := p1 0 (by omega)
      have hPO : POk K L m a := hPO
      have hO : (exO K L W ar kd TN Ls S ev a r.2).1 = 0 := by
        by_cases w : (exO K L W ar kd TN Ls S ev a r.2).1 = 0
        · exact w
        · rw [exS_b _ _ _ w] at h0
          exact h0
      obtain ⟨g1, g2⟩ := exS_g hW l1 l2 hm ihc k (q - 1) (aPt K L a) _ p3 h0 (fun _ => exO_g hW l1 l2 hm hPO (hr c.1) hO)
      refine ⟨g1, fun I hI => ?_⟩
      rcases List.mem_append.mp hI with hI | hI
      · -- behind a point
        have h := hW.1
        unfold ciO at hI
        unfold exO at hO
        by_cases w40 : K (a + 1) = 40
        · rw [if_pos w40] at hI
          rw [List.mem_singleton.mp hI]
          exact fun w => absurd (show (6 : Int) = 5 from w) (by decide)
        · rw [if_neg w40] at hI hO
          by_cases wm : K (a + 2) = 91 ∨ K (a + 2) = 40
          · rw [if_pos wm] at hI hO
            rcases List.mem_append.mp hI with hI | hI
            · obtain ⟨-, hc', hn⟩ := hPO
              obtain ⟨-, n1, n2, -⟩ := hn w40
              unfold exM at hO
              rcases so_pu (L := L) (W := W) (co := (ownT S.2.2.1 r.2).headD 0) (y := W (a + 1)) h with q | ⟨g, q1, q2, -⟩
              · rw [if_pos (by omega)] at hO
                have hO : 2 + 16 * L (a + 1) = 0 := hO
                omega
              rw [q1, if_neg (by omega), Int.toNat_natCast] at hO
              obtain ⟨⟨k1, k2, k3⟩, -⟩ := hd_pu (L := L) (W := W) h q2
              obtain ⟨x, hx⟩ : ∃ x, x = hdd K L W ar TN Ls g := ⟨_, rfl⟩
              rw [← hx] at hO k1 k2 k3
              unfold exC at hO
              by_cases c1 : exN K L (a + 1) = x.1 ∧ NM K L (a + 1) = x.2.1
              rotate_left
              · rw [if_neg c1] at hO
                have hO : 4 + 16 * L (a + 1) = 0 := hO
                omega
              rw [if_pos c1] at hO
              by_cases c2 : ffs (exB K L W ar kd TN Ls S (exE K L W ar TN S (ownT S.2.2.1 r.2) (a + 1)) x.2.2 (exY K L (a + 1))) = 0
              rotate_left
              · rw [if_neg c2] at hO
                exact absurd hO c2
              rw [if_pos c2] at hO
              by_cases c3 : exP K L W ar kd TN Ls S ev (exE K L W ar TN S (ownT S.2.2.1 r.2) (a + 1)) ((exU K L (mO K L (a + 1)).2 (NM K L (a + 1))).zip (x.2.2.drop x.1)) = 0
              rotate_left
              · rw [if_neg c3] at hO
                exact absurd hO c3
              have hmo : mO K L (a + 1) = (0, (mO K L (a + 1)).2) := by
                by_cases q : K (a + 2) = 91
                · rw [(n1 q).2.2]
                · unfold mO
                  rw [show a + 1 + 1 = a + 2 by omega, if_neg q]
              refine ciP_c (n2 wm) ?_ ?_ c3 ihc I hI
              · unfold NM
                rw [← hmo]
              · rw [List.length_drop]
                omega
            · rw [List.mem_singleton.mp hI]
              exact fun _ => hr c.1
          · rw [if_neg wm] at hI
            rw [List.mem_singleton.mp hI]
            exact fun w => absurd (show (4 : Int) = 5 from w) (by decide)
      · exact g2 I hI
    · have e1 : exS K L W ar kd TN Ls S ev (k + 1) a r = r := if_neg c
      have e2 : ciS K L W ar kd TN Ls S ev cd (k + 1) a r = [] := if_neg c
      rw [e1] at h0 ⊢
      rw [e2]
      exact ⟨hr h0, fun I hI => by cases hI⟩
/-- the TYPE and the code of an E -/
theorem exE_g (hW : EWd K L W ar kd TN Ls n lo hi B b β0 β1 S) (hV : VTy ar (TN.length : Int) S) (hVl : S.2.2.2.2.length = S.2.2.2.1.length) (l1 : S.1.length ≤ 6) (l2 : S.2.1.length ≤ 6) : ∀ m, 0 < m → m ≤ 10 → ∀ t, (p_e K L m false (0, t)).1 = 0 → (exE6 K L W ar kd TN Ls S m t).1 = 0 → TGo ar (TN.length : Int) (S.2.1.length : Int) (S.1.length : Int) (exE6 K L W ar kd TN Ls S m t).2 ∧ ckC ar (TN.length : Int) (S.2.1.length : Int) (S.1.length : Int) (ciE K L W ar kd TN Ls S m t)
  | 0, hm0, _, _, _, _ => absurd hm0 (Nat.lt_irrefl 0)
  | m + 1, _, hm, t, hp, h0 => by
    have h := hW.1
    have ihc : ∀ t, (p_e K L m false (0, t)).1 = 0 → (exE6 K L W ar kd TN Ls S m t).1 = 0 → ckC ar (TN.length : Int) (S.2.1.length : Int) (S.1.length : Int) (ciE K L W ar kd TN Ls S m t) := fun t hp h0 => by
      rcases Nat.eq_zero_or_pos m with q | q
      · rw [q]
        exact fun I hI => by cases hI
      · exact (exE_g hW hV hVl l1 l2 m q (by omega) t hp h0).2
    obtain ⟨hH, u2⟩ := pe_u (m := m) (by omega) hp
    have h0 : (exS K L W ar kd TN Ls S (exE6 K L W ar kd TN Ls S m) 20 (aHd K L t) (exH K L W ar kd TN Ls S (exE6 K L W ar kd TN Ls S m) t)).1 = 0 := h0
    show TGo ar (TN.length : Int) (S.2.1.length : Int) (S.1.length : Int) (exS K L W ar kd TN Ls S (exE6 K L W ar kd TN Ls S m) 20 (aHd K L t) (exH K L W ar kd TN Ls S (exE6 K L W ar kd TN Ls S m) t)).2 ∧ ckC ar (TN.length : Int) (S.2.1.length : Int) (S.1.length : Int) (ciH K L W ar TN S (ciE K L W ar kd TN Ls S m) t ++ ciS K L W ar kd TN Ls S (exE6 K L W ar kd TN Ls S m) (ciE K L W ar kd TN Ls S m) 20 (aHd K L t) (exH K L W ar kd TN Ls S (exE6 K L W ar kd TN Ls S m) t))
    have hr : (exH K L W ar kd TN Ls S (exE6 K L W ar kd TN Ls S m) t).1 = 0 := by
      by_cases w : (exH K L W ar kd TN Ls S (exE6 K L W ar kd TN Ls S m) t).1 = 0
      · exact w
      · rw [exS_b _ _ _ w] at h0
        exact h0
    obtain ⟨g1, g2⟩ := exS_g hW l1 l2 (show m ≤ 10 by omega) ihc 20 20 (aHd K L t) _ u2 h0 (fun w => exH_g h hV hVl l1 l2 (show m ≤ 10 by omega) hH w)
    refine ⟨g1, fun I hI => ?_⟩
    rcases List.mem_append.mp hI with hI | hI
    · unfold ciH at hI
      unfold exH at hr
      by_cases hb : K (t + 1) = 123 ∨ K (t + 1) = 91
      · rw [if_pos hb] at hI hr
        obtain ⟨hp1, hAO⟩ := hH.2 hb
        unfold exL at hr
        by_cases c1 : (exT K L W ar kd TN Ls S t).1 = 0
        rotate_left
        · rw [if_neg c1] at hr
          exact absurd hr c1
        rw [if_pos c1] at hr
        by_cases c2 : kd ((exT K L W ar kd TN Ls S t).2.headD 0) = 1
        rotate_left
        · rw [if_neg c2] at hr
          have hr : 6 + 16 * L t = 0 := hr
          omega
        rw [if_pos c2] at hr
        by_cases c3 : NV K L (nxT K L t) = (fTy K L W ar TN Ls ((exT K L W ar kd TN Ls S t).2.headD 0)).length
        rotate_left
        · rw [if_neg c3] at hr
          have hr : 4 + 16 * L t = 0 := hr
          omega
        rw [if_pos c3] at hr
        unfold ciL at hI
        rcases List.mem_cons.mp hI with rfl | hI
        · exact fun w => absurd (show (2 : Int) = 5 from w) (by decide)
        · rcases List.mem_append.mp hI with hI | hI
          · exact ciP_c hAO rfl (by rw [← c3]; exact Nat.le_refl _) hr ihc I hI
          · rw [List.mem_singleton.mp hI]
            exact fun w => absurd (show (3 : Int) = 5 from w) (by decide)
      · rw [if_neg hb] at hI
        unfold ciV at hI
        rw [List.mem_singleton.mp hI]
        exact fun w => absurd (show (1 : Int) = 5 from w) (by decide)
    · exact g2 I hI
end ZVG
/-- all code of a program without a fault: TYPES ahead of CALLS -/
def PCc (K L W ar kd : Int → Int) (TN Ls : List Int) (mB : Int) : Prop := (∀ (g : Nat) (p : Nat × Int), (fnQi K 0 Ls)[g]? = some p → ckC ar (TN.length : Int) (nXf K L p : Int) (nYf K L p : Int) (fnC K L W ar kd TN Ls p)) ∧ ckC ar (TN.length : Int) 0 0 (mnC K L W ar kd TN Ls mB)
section ZVH
variable {K L W ar kd : Int → Int} {TN Ls : List Int} {n lo hi : Int}
theorem PCc_of {mB : Int} (h : PRm K L W ar kd n lo hi TN Ls) (h0 : ffs (eFs K L W ar kd TN Ls mB) = 0) (hmP : (p_e K L 10 false (0, mB)).1 = 0) : PCc K L W ar kd TN Ls mB := by
  have hH := kHd_204 h
  unfold eFs at h0
  have hz := ffs_0.mp h0
  have lv : ∀ nX nY : Int, lvI.1 = 5 → TGo ar (TN.length : Int) nX nY lvI.2.1 := fun _ _ w => absurd (show (0 : Int) = 5 from w) (by decide)
  refine ⟨fun g p hg => ?_, ?_⟩
  · have hF := hz _ (List.mem_append_left _ (List.mem_map.mpr ⟨p, List.mem_of_getElem? hg, rfl⟩))
    obtain ⟨h1, h6, -⟩ := fnQi_inv hg
    obtain ⟨d1, d2, -⟩ := dcC_at Ls p.1 p.2 lo hi h.1.2.1 h1
    have hfn := fn_fw (d2 h6).1
    have hd0 : (dHd K L p.2)[0]? = some (f_5 K L false (0, p.2)).2 := by
      unfold dHd
      rw [if_pos h6]
      rfl
    obtain ⟨-, ⟨l1, l2⟩, -⟩ := hd_fact h h1 hd0
    have tp6 := (tp_fact h h1).1
    have ed : dTp K L p.2 = fPa K L false (0, p.2) := if_pos h6
    rw [ed] at tp6
    have hpe := hfn.2.2.1
    have ef7 : f_7 K L false (0, p.2) = (0, (f_7 K L false (0, p.2)).2) := Prod.ext hfn.1 rfl
    rw [ef7] at hpe
    have hE : (exE6 K L W ar kd TN Ls (fnS K L W ar TN Ls p.1 p.2) 10 (f_7 K L false (0, p.2)).2).1 = 0 := by
      unfold fnF at hF
      by_cases q : (exE6 K L W ar kd TN Ls (fnS K L W ar TN Ls p.1 p.2) 10 (f_7 K L false (0, p.2)).2).1 = 0
      · exact q
      · rw [if_neg q] at hF
        exact hF
    have hW := EWd_fn (B := 0) (b := 0) h hH (Int.le_refl _) (Int.le_refl _) h1 h6
    have hVl : (fnS K L W ar TN Ls p.1 p.2).2.2.2.2.length = (fnS K L W ar TN Ls p.1 p.2).2.2.2.1.length := by
      show (_ :: List.map _ (h_v K L (0, (f_5 K L false (0, p.2)).2 + 1))).length = (_ :: h_v K L (0, (f_5 K L false (0, p.2)).2 + 1)).length
      rw [List.length_cons, List.length_cons, List.length_map]
    have key := (exE_g hW (VTy_fn h h1 h6) hVl l1 tp6 10 (by decide) (Nat.le_refl _) _ hpe hE).2
    intro I hI
    unfold fnC at hI
    rcases List.mem_append.mp hI with hI | hI
    · exact key I hI
    · rw [List.mem_singleton.mp hI]
      exact lv _ _
  · have hF := hz _ (List.mem_append_right _ (List.mem_singleton.mpr rfl))
    have hW := EWd_mn (B := 0) (b := 0) h (Int.le_refl _) (Int.le_refl _)
    have key := (exE_g hW (fun A hA => by cases hA) rfl (Nat.zero_le _) (Nat.zero_le _) 10 (by decide) (Nat.le_refl _) mB hmP hF).2
    intro I hI
    unfold mnC at hI
    rcases List.mem_append.mp hI with hI | hI
    · exact key I hI
    · rw [List.mem_singleton.mp hI]
      exact lv _ _
end ZVH
