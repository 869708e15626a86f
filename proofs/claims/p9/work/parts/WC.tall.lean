/-! ===== the class: tellAll, whole ===== -/
section WTA
variable {K L W ar kd : Int → Int} {TN : List Int} {P : Nat} {s s' : zS} {n lo hi m : Int} {Ls : List Int}
theorem alFs_ap2 {hfs : Int → List Int} : ∀ (l l' : List Int) (h : Int), alFs K L W ar kd TN hfs h (l ++ l') = alFs K L W ar kd TN hfs h l ++ alFs K L W ar kd TN hfs (h + (kHd K L l : Int)) l'
  | [], l', h => by
    show alFs K L W ar kd TN hfs h l' = [] ++ alFs K L W ar kd TN hfs (h + ((0 : Nat) : Int)) l'
    rw [List.nil_append, show h + ((0 : Nat) : Int) = h by omega]
  | t :: l, l', h => by
    show dFs K L W ar kd TN hfs h t ++ alFs K L W ar kd TN hfs _ (l ++ l') = (dFs K L W ar kd TN hfs h t ++ alFs K L W ar kd TN hfs _ l) ++ _
    rw [alFs_ap2 l, List.append_assoc]
    have e : (kHd K L (t :: l) : Int) = ((dHd K L t).length : Int) + (kHd K L l : Int) := by
      show (((if K t = 6 then 1 else tNh K L false (0, t)) + kHd K L l : Nat) : Int) = _
      rw [← dHd_len]
      omega
    rw [e, Int.add_assoc]
/-- the faults up to declaration i, the whole -/
theorem alFs_le {hfs : Int → List Int} {i : Nat} (hq : ¬ ffs (alFs K L W ar kd TN hfs 0 (Ls.take i)) = 0) : ffs (alFs K L W ar kd TN hfs 0 Ls) = ffs (alFs K L W ar kd TN hfs 0 (Ls.take i)) := by
  have e : alFs K L W ar kd TN hfs 0 Ls = alFs K L W ar kd TN hfs 0 (Ls.take i ++ Ls.drop i) := by rw [List.take_append_drop]
  rw [e, alFs_ap2, ffs_app, if_neg hq]
theorem alFs_s {hfs : Int → List Int} {i : Nat} {t : Int} (h1 : Ls[i]? = some t) : alFs K L W ar kd TN hfs 0 (Ls.take (i + 1)) = alFs K L W ar kd TN hfs 0 (Ls.take i) ++ dFs K L W ar kd TN hfs (kHd K L (Ls.take i) : Int) t := by
  rw [take_s h1, alFs_app, show (0 : Int) + (kHd K L (Ls.take i) : Int) = (kHd K L (Ls.take i) : Int) by omega]
/-- what stands as declaration i begins -/
def TA3 (K L W ar kd : Int → Int) (TN : List Int) (P : Nat) (hi : Int) (Ls : List Int) (i : Nat) (u : zS) : Prop := ffs (alFs K L W ar kd TN (hfS K L Ls) 0 (Ls.take i)) = 0 ∧ (∃ mi : Int, 0 ≤ mi ∧ 18738 ≤ (u.1 P 10).toInt ∧ (u.1 P 10).toInt ≤ 18738 + mi ∧ srtQ K L mi hi ((aSl K L 0 Ls).drop (aSl K L 0 (Ls.take i)).length)) ∧ SWz K L W ar TN (hfS K L Ls) P u Ls (u.1 P 10).toInt (aSl K L 0 (Ls.take i)).length ∧ FNi P u (cfO K L W TN Ls) (TN.length : Int) (kFn K (Ls.take i))
/-- what tellAll leaves -/
def TAq (K L W ar kd : Int → Int) (TN : List Int) (P : Nat) (hi : Int) (Ls : List Int) (s u : zS) : Prop := TAf P s u ∧ (u.1 P 14).toInt = ffs (alFs K L W ar kd TN (hfS K L Ls) 0 Ls) ∧ ((u.1 P 14).toInt = 0 → TA3 K L W ar kd TN P hi Ls Ls.length u)
theorem ffs_s {l : List Int} {x : Int} : ffs (l ++ [x]) = if ffs l = 0 then x else ffs l := by
  rw [ffs_app]
  show (if ffs l = 0 then (if x = 0 then 0 else x) else ffs l) = _
  by_cases hx : x = 0
  · rw [if_pos hx, hx]
  · rw [if_neg hx]
theorem mapt_s {α β : Type} {f : α → β} {l : List α} {j : Nat} {x : α} (h1 : l[j]? = some x) : (l.take (j + 1)).map f = (l.take j).map f ++ [f x] := by
  rw [List.take_succ, h1, List.map_append]
  rfl
theorem SWz_f {k k' : Int} {j : Nat} {hfs : Int → List Int} (g : SWz K L W ar TN hfs P s Ls k j) (hk : k ≤ k') (h18 : ∀ i : Nat, (i : Int) < k → s'.2 (P + 18) i = s.2 (P + 18) i) (h20 : ∀ i : Nat, (i : Int) < k - 18738 → s'.2 (P + 20) i = s.2 (P + 20) i) (h30 : ∀ i : Nat, i < j → slc s' P (i : Int) 3 = slc s P (i : Int) 3) : SWz K L W ar TN hfs P s' Ls k' j := fun i q x hij h1 h2 => by
  obtain ⟨g1, g2⟩ := g i q x hij h1 h2
  rw [h30 i hij]
  refine ⟨g1, fun h0 => ?_⟩
  obtain ⟨a1, a2, a3, a4⟩ := g2 h0
  refine ⟨a1, by omega, fun j c hc => ?_, fun j c hc => ?_⟩
  · have := (List.getElem?_eq_some_iff.mp hc).1
    rw [List.length_map] at this
    rw [KI_lo h18 (by omega)]
    exact a3 j c hc
  · have := (List.getElem?_eq_some_iff.mp hc).1
    rw [List.length_map] at this
    rw [KI_lo h20 (by omega)]
    exact a4 j c hc
set_option maxHeartbeats 4000000 in
/-- the slots of one declaration -/
theorem tall_in (hP : P = 3 ∨ P = 39) (hX : TXp K L n) (hD : DBz K L W ar kd n P s TN) (hR : RWz K L P s m Ls) (hA : ALz K L P s m Ls) (hC : dcC K L lo hi Ls) (hlo : 0 ≤ lo) (hhi : hi ≤ n) (hm : m ≤ 4000) (hLl : Ls.length ≤ 4000) {i : Nat} {t : Int} (h1 : Ls[i]? = some t) {a2 a3 a4 : Int32} (e2 : a2.toInt = (i : Int)) (e4 : a4.toInt = ((aSl K L 0 (Ls.take i)).length : Int)) {u : zS} (hu : TAf P s u) (pre : List Int) (hpre : dFs K L W ar kd TN (hfS K L Ls) (kHd K L (Ls.take i) : Int) t = pre ++ (sDc K L (kHd K L (Ls.take i) : Int) t).map (slF K L W ar kd (dTp K L t) TN (hfS K L Ls))) (h14 : (u.1 P 14).toInt = ffs pre) (hTA : ffs (alFs K L W ar kd TN (hfS K L Ls) 0 (Ls.take i)) = 0) (hk : ffs pre = 0 → SCt P u (dTp K L t) ∧ (∃ mi : Int, 0 ≤ mi ∧ 18738 ≤ (u.1 P 10).toInt ∧ (u.1 P 10).toInt ≤ 18738 + mi ∧ srtQ K L mi hi ((aSl K L 0 Ls).drop (aSl K L 0 (Ls.take i)).length)) ∧ SWz K L W ar TN (hfS K L Ls) P u Ls (u.1 P 10).toInt (aSl K L 0 (Ls.take i)).length ∧ FNi P u (cfO K L W TN Ls) (TN.length : Int) (kFn K (Ls.take (i + 1))) ∧ ∀ (j : Nat) q, (aSl K L 0 (Ls.take i)).length ≤ j → (aSl K L 0 Ls)[j]? = some q → slc u P (j : Int) 3 = -1) {Q : Option Value → zS → Prop} {R7 : Int32 → zS → Prop} (hR7 : ∀ (x : Int32) (u' : zS), x.toInt = (i : Int) + 1 → TAf P s u' → (¬ (u'.1 P 14).toInt = 0 → ffs (alFs K L W ar kd TN (hfS K L Ls) 0 Ls) = (u'.1 P 14).toInt) → ((u'.1 P 14).toInt = 0 → TA3 K L W ar kd TN P hi Ls (i + 1) u' ∧ ∀ (j : Nat) q, (aSl K L 0 (Ls.take (i + 1))).length ≤ j → (aSl K L 0 Ls)[j]? = some q → slc u' P (j : Int) 3 = -1) → R7 x u') : vl_128_38 (fun j => Zt (26 + 8) (wd P j) j) P R7 a2 a3 a4 u Q := by
  have hn4 := hX.1
  obtain ⟨⟨z1, z2, z3, z4, z5⟩, w1, w2, w3, w4⟩ := hR
  obtain ⟨hS, hS3⟩ := SLc_of w1
  have hil := (List.getElem?_eq_some_iff.mp h1).1
  have hdc : dcl s P (i : Int) 2 = ((aSl K L 0 (Ls.take i)).length : Int) + ((sDc K L (kHd K L (Ls.take i) : Int) t).length : Int) := by
    have key : dcl s P (i : Int) 2 = (s.2 (P + 32) (3 * i + 2)).toInt := by
      unfold dcl
      rw [show 3 * (i : Int) + 2 = ((3 * i + 2 : Nat) : Int) by omega, KI_n]
    rw [key]
    obtain ⟨a1, a2'⟩ := hA i t h1
    by_cases h6 : K t = 6
    · exact (a1 h6).2.2.1.2.2
    · exact (a2' h6).2.2.2.2.2
  have e_s := aSl_app (K := K) (L := L) (q := t) (Ls.take i) 0
  rw [← take_s h1, show (0 : Int) + (kHd K L (Ls.take i) : Int) = (kHd K L (Ls.take i) : Int) by omega] at e_s
  generalize hJ : (aSl K L 0 (Ls.take i)).length = J at *
  generalize hSl : sDc K L (kHd K L (Ls.take i) : Int) t = Sl at *
  generalize hHf : hfS K L Ls = hfs at *
  have hat : ∀ (jj : Nat) q, Sl[jj]? = some q → (aSl K L 0 Ls)[J + jj]? = some q ∧ (aWd K L W ar TN hfs 0 Ls)[J + jj]? = some (slW K L W ar (dTp K L t) TN hfs q) := fun jj q hq => by
    rw [← hJ]
    rw [← hSl] at hq
    refine ⟨aSl_at Ls i jj 0 t q h1 ?_, aWd_at Ls i jj 0 t q h1 ?_⟩
    · rw [show (0 : Int) + (kHd K L (Ls.take i) : Int) = (kHd K L (Ls.take i) : Int) by omega]
      exact hq
    · rw [show (0 : Int) + (kHd K L (Ls.take i) : Int) = (kHd K L (Ls.take i) : Int) by omega]
      exact hq
  have hlen : J + Sl.length ≤ (aSl K L 0 Ls).length := by
    rcases Nat.eq_zero_or_pos Sl.length with h0 | h0
    · have : (aSl K L 0 (Ls.take i)).length ≤ (aSl K L 0 Ls).length := by
        have hh : ∀ (l : List Int) (k : Nat) (h : Int), (aSl K L h (l.take k)).length ≤ (aSl K L h l).length := by
          intro l
          induction l with
          | nil =>
            intro k h
            rw [List.take_nil]
            exact Nat.le_refl _
          | cons a l ih =>
            intro k h
            cases k with
            | zero => exact Nat.zero_le _
            | succ k =>
              rw [List.take_succ_cons, aSl_cons, aSl_cons, List.length_append, List.length_append]
              have := ih k (h + ((dHd K L a).length : Int))
              omega
        exact hh Ls i 0
      omega
    · have := (hat (Sl.length - 1) _ (List.getElem?_eq_getElem (by omega))).1
      have := (List.getElem?_eq_some_iff.mp this).1
      omega
  refine ⟨fun c2 c3 c4 v => c2 = a2 ∧ c3 = a3 ∧ TAf P s v ∧ ∃ jj : Nat, c4.toInt = ((J + jj : Nat) : Int) ∧ jj ≤ Sl.length ∧ (v.1 P 14).toInt = ffs (pre ++ (Sl.take jj).map (slF K L W ar kd (dTp K L t) TN hfs)) ∧ ((v.1 P 14).toInt = 0 → SCt P v (dTp K L t) ∧ (∃ mi : Int, 0 ≤ mi ∧ 18738 ≤ (v.1 P 10).toInt ∧ (v.1 P 10).toInt ≤ 18738 + mi ∧ srtQ K L mi hi ((aSl K L 0 Ls).drop (J + jj))) ∧ SWz K L W ar TN hfs P v Ls (v.1 P 10).toInt (J + jj) ∧ FNi P v (cfO K L W TN Ls) (TN.length : Int) (kFn K (Ls.take (i + 1))) ∧ ∀ (j : Nat) q, J + jj ≤ j → (aSl K L 0 Ls)[j]? = some q → slc v P (j : Int) 3 = -1), fun _ _ c4 _ => (4000 - c4.toInt).toNat, ⟨rfl, rfl, hu, 0, e4, Nat.zero_le _, ?_, fun h0 => ?_⟩, ?_⟩
  · rw [List.take_zero, List.map_nil, List.append_nil]
    exact h14
  · rw [h14] at h0
    exact hk h0
  rintro c2 c3 c4 v ⟨g1, g2, g3, jj, g4, g5, g6, g7⟩
  subst g1 g2
  have d2 : (zg v (P + 32) (c2 * 3 + 2)).toInt = ((J + Sl.length : Nat) : Int) := by
    rw [zg_dc (s := v) (P := P) (a1 := c2) (c := 2) (k := 2) (by decide) (by decide) (by omega), e2]
    unfold dcl at hdc ⊢
    rw [TAf_r g3 (by decide) (by decide) (by decide) (by decide) (by decide), hdc]
    omega
  -- the next declaration
  have nxt : ((v.1 P 14).toInt = 0 → jj = Sl.length) → v_128_54 (fun j => Zt (26 + 8) (wd P j) j) P R7 c2 c3 c4 v Q := by
    intro hj
    unfold v_128_54
    intro x1 hx1
    have ex1 := hx1 (by omega)
    have hall : alFs K L W ar kd TN hfs 0 (Ls.take (i + 1)) = alFs K L W ar kd TN hfs 0 (Ls.take i) ++ (pre ++ Sl.map (slF K L W ar kd (dTp K L t) TN hfs)) := by
      rw [alFs_s h1, ← hpre]
    refine hR7 x1 v (by omega) g3 (fun h0 => ?_) (fun h0 => ?_)
    · have hne : ffs (pre ++ Sl.map (slF K L W ar kd (dTp K L t) TN hfs)) = (v.1 P 14).toInt := by
        have e : Sl.map (slF K L W ar kd (dTp K L t) TN hfs) = (Sl.take jj).map (slF K L W ar kd (dTp K L t) TN hfs) ++ (Sl.drop jj).map (slF K L W ar kd (dTp K L t) TN hfs) := by rw [← List.map_append, List.take_append_drop]
        rw [e, ← List.append_assoc, ffs_app, ← g6, if_neg h0]
      have h2 : ffs (alFs K L W ar kd TN hfs 0 (Ls.take (i + 1))) = (v.1 P 14).toInt := by
        rw [hall, ffs_app, if_pos hTA, hne]
      rw [alFs_le (i := i + 1) (by rw [h2]; exact h0), h2]
    · have hjj := hj h0
      obtain ⟨k1, k2, k3, k4, k5⟩ := g7 h0
      have eJ : (aSl K L 0 (Ls.take (i + 1))).length = J + Sl.length := by rw [e_s, List.length_append, hJ]
      rw [eJ]
      rw [hjj] at k2 k3 k5 g6
      rw [List.take_length] at g6
      refine ⟨⟨?_, ?_, ?_, k4⟩, k5⟩
      · rw [hHf, hall, ffs_app, if_pos hTA, ← g6]
        exact h0
      · rw [eJ]
        exact k2
      · rw [eJ, hHf]
        exact k3
  unfold v_128_38
  rw [d2]
  refine ⟨fun y0 => nxt (fun _ => by omega), fun y0 => ⟨fun y1 => nxt (fun h0 => absurd h0 y1), fun y1 => ?_⟩⟩
  have hj : jj < Sl.length := by omega
  obtain ⟨q, hq⟩ : ∃ q, Sl[jj]? = some q := ⟨_, List.getElem?_eq_getElem hj⟩
  obtain ⟨at1, at2⟩ := hat jj q hq
  obtain ⟨k1, ⟨mi, k20, k21, k22, k23⟩, k3, k4, k5⟩ := g7 y1
  have hqm : q ∈ sDc K L (kHd K L (Ls.take i) : Int) t := by rw [hSl]; exact List.mem_of_getElem? hq
  obtain ⟨c1', c2', c3'⟩ := SCh_of hC hA ⟨by omega, by omega⟩ hS h1 hqm
  rw [hHf] at c1'
  have hdr : (aSl K L 0 Ls).drop (J + jj) = q :: (aSl K L 0 Ls).drop (J + jj + 1) := by
    have hl := (List.getElem?_eq_some_iff.mp at1).1
    rw [List.drop_eq_getElem_cons hl]
    have : (aSl K L 0 Ls)[J + jj] = q := by
      have h2 := (List.getElem?_eq_some_iff.mp at1).2
      exact h2
    rw [this]
  rw [hdr] at k23
  obtain ⟨sa, sb, s1', s2', s3', s4', s5'⟩ := k23
  have hsb := srtQ_le s5'
  obtain ⟨p0, p1, p2, p4⟩ := SLc_f g3 hS (J + jj) q at1
  have hGT : 0 ≤ q.2.2.1 → LT K L P q.2.2.1 (nxT K L q.2.2.1) v := fun h0 => by
    have g := w4 q (List.mem_of_getElem? at1) h0
    have e := (pt_g 10 (by omega) false _ g.2.1).2.2
    rw [e]
    intro y ya yb yc
    rw [TAf_r g3 (by decide) (by decide) (by decide) (by decide) (by decide)]
    exact g.2.2 y ya yb yc
  have hv3 := k5 (J + jj) q (Nat.le_refl _) at1
  refine Zt.imp (Zt.mo (d := 24) (by omega) (zs_131 (hfs := hfs) (tp := dTp K L t) (TN := TN) (W := W) (ar := ar) (kd := kd) hP hX (j := ((J + jj : Nat) : Int)) (k := (v.1 P 10).toInt) (q := q) g4 (by omega) p1 p2 p4 ⟨c2', c3'⟩ y1 rfl k21 (fun h0 => ?_) (DBz_f hP g3 hD) (SCh_f g3 c1') k1)) ?_
  · obtain ⟨t1, t2, t3⟩ := s4' h0
    exact ⟨t3, by omega, by omega, hGT h0⟩
  · rintro v2 s3 ⟨rfl, r1, r2, r3, r4, r5, r6, r7, r8⟩
    refine ⟨rfl, fun x4 hx4 => ?_⟩
    have ex4 := hx4 (by omega)
    refine ⟨⟨rfl, rfl, TAf_tr g3 r1, jj + 1, by omega, by omega, ?_, fun h0 => ?_⟩, by dsimp only; omega⟩
    · rw [mapt_s hq, ← List.append_assoc, ffs_s, ← g6, if_pos y1]
      exact r2
    · rw [r2] at h0
      obtain ⟨r9, r10⟩ := r8 h0
      have hJJ : J + jj + 1 = J + (jj + 1) := by omega
      rw [hJJ] at s5'
      have h3o : ∀ i' : Nat, ¬ i' = J + jj → slc s3 P (i' : Int) 3 = slc v P (i' : Int) 3 := fun i' hi' => by
        unfold slc
        rw [KI_p (by omega), KI_p (by omega), r6 _ (by omega)]
      have hFN : FNi P s3 (cfO K L W TN Ls) (TN.length : Int) (kFn K (Ls.take (i + 1))) := by
        obtain ⟨b1, b2⟩ := k4
        unfold FNi fnc tyc at *
        rw [r7.1, r7.2]
        exact ⟨b1, b2⟩
      have h5' : ∀ (j : Nat) q', J + (jj + 1) ≤ j → (aSl K L 0 Ls)[j]? = some q' → slc s3 P (j : Int) 3 = -1 := fun j q' hj' hq' => by
        rw [h3o j (by omega)]
        exact k5 j q' (by omega) hq'
      by_cases hneg : q.2.2.1 < 0
      · have hs3 := r9 hneg
        have e10 : s3.1 P 10 = v.1 P 10 := by rw [hs3]
        refine ⟨SCt_f r1 r3.1 r3.2 k1, ⟨sb, by omega, by rw [e10]; omega, by rw [e10]; omega, s5'⟩, ?_, hFN, h5'⟩
        intro i' q' x' hi' hq' hx'
        rw [hs3]
        by_cases ei : i' = J + jj
        · rw [ei, at1] at hq'
          have eq' := Option.some.inj hq'
          rw [ei, ← eq']
          exact ⟨fun _ => hv3, fun h0' => by omega⟩
        · exact k3 i' q' x' (by omega) hq' hx'
      · obtain ⟨r11, r12, r13, r14, r15⟩ := r10 (by omega)
        obtain ⟨t1, t2, t3⟩ := s4' (by omega)
        refine ⟨SCt_f r1 r3.1 r3.2 k1, ⟨sb, by omega, by omega, by omega, s5'⟩, ?_, hFN, h5'⟩
        have base := SWz_f (s' := s3) (k' := (s3.1 P 10).toInt) k3 (by omega) r4 r5 (fun i' hi' => h3o i' (by omega))
        intro i' q' x' hi' hq' hx'
        by_cases ei : i' = J + jj
        · rw [ei, at1] at hq'
          rw [ei, at2] at hx'
          have eq' := Option.some.inj hq'
          have ex' := Option.some.inj hx'
          rw [ei, ← eq', ← ex']
          refine ⟨fun h0' => absurd h0' hneg, fun _ => ?_⟩
          unfold slW
          rw [if_neg hneg, r13]
          exact ⟨k21, by omega, r14, r15⟩
        · exact base i' q' x' (by omega) hq' hx'
end WTA
