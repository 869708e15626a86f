/-! ===== HEADS, BOUNDS, FIELDS: pure; the class's cells ===== -/
section ZZPU
variable {K L W ar kd : Int → Int} {TN Ls : List Int} {n lo hi B b β0 β1 k0 c co y : Int} {S : Scp} {g P i j : Nat} {u : zS}
theorem hd_pu (h : PRm K L W ar kd n lo hi TN Ls) (hg : g < kHd K L Ls) : ((hdd K L W ar TN Ls g).1 ≤ 6 ∧ (hdd K L W ar TN Ls g).2.1 ≤ 6 ∧ (hdd K L W ar TN Ls g).2.2.length = (hdd K L W ar TN Ls g).1 + (hdd K L W ar TN Ls g).2.1 + 1) ∧ (∀ M ∈ (hdd K L W ar TN Ls g).2.2, cdW (ar (owd K L W TN Ls g)) ((hdd K L W ar TN Ls g).1 : Int) M ∧ isR ar 1 M ∧ M.length ≤ 60 ∧ cdT (TN.length : Int) M) ∧ ∀ k, k < (hdd K L W ar TN Ls g).1 → kd (((hdd K L W ar TN Ls g).2.2.getD k []).headD 0) = 2 := by
  have hnT := PR_nT h
  have hT24 := h.2.2.1
  have ha := h.2.2.2.1.1
  obtain ⟨i, j, t, q, h1, h2, e⟩ := hd_dc hg
  obtain ⟨⟨p1, p2⟩, ⟨l1, l2⟩, n1, n2, hf, hx⟩ := hd_fact h h1 h2
  obtain ⟨t1, t2, t3, t4⟩ := tb_hd (W := W) (ar := ar) (TN := TN) h1 h2
  obtain ⟨tp6, tpa⟩ := tp_fact h h1
  rw [← e] at t1 t2 t3 t4 hx
  have how : ar (owd K L W TN Ls g) = ((dTp K L t).length : Int) := by rw [t3, tpa]
  have hok : ∀ z ∈ hSlt K L (g : Int) (0, q + 1), isR ar 1 (wdC K L W ar TN (h_f K L (0, q + 1)) (dTp K L t) z.2.2.1) ∧ (wdC K L W ar TN (h_f K L (0, q + 1)) (dTp K L t) z.2.2.1).length ≤ 60 ∧ cdW ((dTp K L t).length : Int) ((h_f K L (0, q + 1)).length : Int) (wdC K L W ar TN (h_f K L (0, q + 1)) (dTp K L t) z.2.2.1) ∧ cdT (TN.length : Int) (wdC K L W ar TN (h_f K L (0, q + 1)) (dTp K L t) z.2.2.1) ∧ (wdC K L W ar TN (h_f K L (0, q + 1)) (dTp K L t) z.2.2.1).headD 0 = cdOf W (h_f K L (0, q + 1)) (dTp K L t) TN z.2.2.1 := fun z hz => by
    obtain ⟨-, -, z3, z4, -⟩ := hx z hz
    exact wdC_ok ha l1 tp6 (by omega) z3 z4
  rw [t1, how]
  refine ⟨⟨l1, l2, ?_⟩, fun M hM => ?_, fun k hk => ?_⟩
  · show ((hSlt K L (g : Int) (0, q + 1)).map _).length = _
    rw [List.length_map, hSlt_len]
  · obtain ⟨z, hz, rfl⟩ := List.mem_map.mp hM
    obtain ⟨o1, o2, o3, o4, -⟩ := hok z hz
    exact ⟨o3, o1, o2, o4⟩
  · have hk' : k < (h_f K L (0, q + 1)).length := hk
    have hv := List.getElem?_eq_getElem hk'
    have hz := (hSlt_at (K := K) (L := L) (q := q) (h := (g : Int))).1 k _ hv
    have eg : ((hSlt K L (g : Int) (0, q + 1)).map (fun x => wdC K L W ar TN (h_f K L (0, q + 1)) (dTp K L t) x.2.2.1)).getD k [] = wdC K L W ar TN (h_f K L (0, q + 1)) (dTp K L t) ((h_f K L (0, q + 1))[k] + 1) := by
      rw [List.getD_eq_getElem?_getD, List.getElem?_map, hz]
      rfl
    show kd ((((hSlt K L (g : Int) (0, q + 1)).map (fun x => wdC K L W ar TN (h_f K L (0, q + 1)) (dTp K L t) x.2.2.1)).getD k []).headD 0) = 2
    rw [eg]
    have o5 := (hok _ (List.mem_of_getElem? hz)).2.2.2.2
    have h5 := (hx _ (List.mem_of_getElem? hz)).2.2.2.2 rfl
    rw [← o5] at h5
    exact h5
/-- the BOUND of a PARAM -/
theorem own_pu (hW : EWd K L W ar kd TN Ls n lo hi B b β0 β1 S) (h0 : 24 ≤ c ∧ c < 36) (hX : c < 30 → c - 24 < (S.2.1.length : Int)) (hY : 30 ≤ c → c - 30 < (S.1.length : Int)) : isR ar 1 (S.2.2.1 c) ∧ ((S.2.2.1 c).length ≤ 60 ∧ cdT (TN.length : Int) (S.2.2.1 c)) ∧ cdW (S.2.1.length : Int) (S.1.length : Int) (S.2.2.1 c) ∧ kd ((S.2.2.1 c).headD 0) = 2 := by
  obtain ⟨hP, -, ⟨hbo, p2, p3⟩, -⟩ := hW
  have hnT := PR_nT hP
  by_cases h30 : c < 30
  · have hx := hX h30
    rcases p2 with q | ⟨d, q1, q2, q3, -⟩
    · omega
    · have q5 := q3 (c - 24).toNat (by omega)
      rw [show 24 + (((c - 24).toNat : Nat) : Int) = c by omega] at q5
      obtain ⟨i, t, h1, h6, ed⟩ := ty_dc (K := K) (Ls := Ls) q1.1 (by have := q1.2; omega)
      obtain ⟨b1, b2⟩ := bf_fact hP h1 h6
      rw [← ed] at b1 b2
      obtain ⟨u1, u2, u3, u4, u5⟩ := b2 _ (getD_mem (L := Bfd K L W ar TN Ls d) (k := (c - 24).toNat) (by omega))
      rw [q5]
      refine ⟨u2, ⟨u3, u5⟩, fun x hx => ?_, u4⟩
      obtain ⟨v1, v2, v3, v4⟩ := u1 x hx
      exact ⟨v1, v2, fun w1 w2 => by have := v3 w1 w2; omega, fun w1 => by have := v4 w1; omega⟩
  · have hy := hY (by omega)
    rcases p3 with q | ⟨h, q1, q2, q3, q4, q45, q5⟩
    · omega
    · have q6 := q5 (c - 30).toNat (by omega)
      rw [show 30 + (((c - 30).toNat : Nat) : Int) = c by omega] at q6
      obtain ⟨⟨k1, k2, k3⟩, k4, k7⟩ := hd_pu hP q1
      have hm := getD_mem (L := (hdd K L W ar TN Ls h).2.2) (k := (c - 30).toNat) (by omega)
      obtain ⟨u1, u2, u3, u4⟩ := k4 _ hm
      rw [q6]
      refine ⟨u2, ⟨u3, u4⟩, fun x hx => ?_, k7 _ (by omega)⟩
      obtain ⟨v1, v2, v3, v4⟩ := u1 x hx
      exact ⟨v1, v2, fun w1 w2 => by have := v3 w1 w2; omega, fun w1 => by have := v4 w1; omega⟩
/-- which HEAD -/
theorem so_pu (h : PRm K L W ar kd n lo hi TN Ls) : soD K L W kd TN Ls co y = -1 ∨ ∃ g : Nat, soD K L W kd TN Ls co y = (g : Int) ∧ g < kHd K L Ls ∧ owd K L W TN Ls g = co := by
  unfold soD rso
  by_cases k1 : kd co = 1
  · rw [if_pos k1]
    rcases lFw_b (cf := cfO K L W TN Ls) (wf := fun f => hwd K L W Ls (fsd K L Ls f)) (c := co) (x := y) (kFn K Ls) with z | ⟨f, z1, z2, z3, -⟩
    · rw [z, if_neg (by decide)]
      exact Or.inl rfl
    · rw [z2, if_pos (by omega), Int.toNat_natCast]
      obtain ⟨i, t, h1, h6, rfl⟩ := fn_dc (K := K) z1
      obtain ⟨f1, f2⟩ := tb_fn (L := L) (W := W) (TN := TN) h1 h6
      have hd0 : (dHd K L t)[0]? = some (f_5 K L false (0, t)).2 := by
        unfold dHd
        rw [if_pos h6]
        rfl
      have hl := kHd_lt h1 hd0
      have t3 := (tb_hd (W := W) (ar := ar) (TN := TN) h1 hd0).2.2.1
      rw [Nat.add_zero] at hl t3
      rw [f1]
      refine Or.inr ⟨_, rfl, hl, ?_⟩
      rw [t3, if_pos h6, ← f2, z3]
  · rw [if_neg k1]
    by_cases k2 : kd co = 2
    · rw [if_pos k2]
      rcases fsM_b (wf := hwd K L W Ls) (x := y) (tnd K L Ls co) (tmd K L Ls co) with z | ⟨g, z1, z2, z3, -⟩
      · exact Or.inl z
      · obtain ⟨i, t, h1, h6, rfl, hst⟩ := kd_2 h k2
        obtain ⟨-, f2, f3⟩ := tb_ty (W := W) (ar := ar) (TN := TN) (L := L) h1 h6
        rw [f2] at z1 z2
        rw [f3] at z2
        have hd0 : (dHd K L t)[g - kHd K L (Ls.take i)]? = some (tMe K L false (0, t))[g - kHd K L (Ls.take i)] := by
          unfold dHd
          rw [if_neg h6, if_neg hst]
          exact List.getElem?_eq_getElem (by omega)
        have hl := kHd_lt h1 hd0
        have t3 := (tb_hd (W := W) (ar := ar) (TN := TN) h1 hd0).2.2.1
        rw [show kHd K L (Ls.take i) + (g - kHd K L (Ls.take i)) = g by omega] at hl t3
        rw [if_neg h6] at t3
        exact Or.inr ⟨g, z3, hl, t3⟩
    · rw [if_neg k2]
      exact Or.inl rfl
/-- slots' words lie ahead of k0 -/
def SSk (P : Nat) (u : zS) (k0 b : Int) (X : List (List Int)) : Prop := ∀ (j : Nat) (A : List Int), X[j]? = some A → slc u P (b + (j : Int)) 3 + (A.length : Int) ≤ k0
theorem cz_sk (C : CSz K L W ar kd TN Ls n k0 P u) {t : Int} (h1 : Ls[i]? = some t) {j0 : Nat} {hf : List Int} {S : List (Int × Int × Int × Int)} (hS : ∀ (k : Nat) x, S[k]? = some x → (sDc K L (kHd K L (Ls.take i) : Int) t)[j0 + k]? = some x ∧ 0 ≤ x.2.2.1 ∧ hfS K L Ls x.2.2.2 = hf) : SSk P u k0 (((aSl K L 0 (Ls.take i)).length + j0 : Nat) : Int) (S.map (fun x => wdC K L W ar TN hf (dTp K L t) x.2.2.1)) := by
  intro k A hk
  rw [List.getElem?_map] at hk
  cases hx : S[k]? with
  | none => rw [hx] at hk; cases hk
  | some x =>
    rw [hx] at hk
    have eA : wdC K L W ar TN hf (dTp K L t) x.2.2.1 = A := Option.some.inj hk
    obtain ⟨s1, s2, s3⟩ := hS k x hx
    obtain ⟨-, -, z⟩ := cz_sl C h1 s1
    obtain ⟨⟨z1, z2⟩, z3, -⟩ := z s2
    rw [s3, eA] at z2
    rw [show (((aSl K L 0 (Ls.take i)).length + j0 : Nat) : Int) + (k : Int) = (((aSl K L 0 (Ls.take i)).length + (j0 + k) : Nat) : Int) by omega]
    exact z2
theorem cz_hk (h : PRm K L W ar kd n lo hi TN Ls) (C : CSz K L W ar kd TN Ls n k0 P u) (hg : g < kHd K L Ls) : SSk P u k0 (sgc u P (g : Int) 2) (hdd K L W ar TN Ls g).2.2 := by
  obtain ⟨i, j, t, q, h1, h2, e⟩ := hd_dc hg
  subst e
  obtain ⟨-, -, -, -, hf, hx⟩ := hd_fact h h1 h2
  obtain ⟨t1, -⟩ := tb_hd (W := W) (ar := ar) (TN := TN) h1 h2
  obtain ⟨j0, ⟨g0, g1, g2, g3, g4⟩, g5⟩ := (C.2.2.2.2.2.1 i t h1).2 j q h2
  rw [t1, g2]
  refine cz_sk C h1 (fun k x hk => ?_)
  obtain ⟨z1, z2, -⟩ := hx x (List.mem_of_getElem? hk)
  exact ⟨g5 k x hk, z1, by rw [z2, hf]⟩
/-- FIELDS -/
theorem cz_fl (h : PRm K L W ar kd n lo hi TN Ls) (C : CSz K L W ar kd TN Ls n k0 P u) (hk : kd c = 1) : (0 ≤ c ∧ c < (TN.length : Int)) ∧ (fNm K L Ls c).length = (fTy K L W ar TN Ls c).length ∧ tyc u P c 4 = ((fTy K L W ar TN Ls c).length : Int) ∧ (fTy K L W ar TN Ls c).length ≤ 7 ∧ (0 ≤ tyc u P c 3 ∧ tyc u P c 3 ≤ 4006) ∧ (∀ (k : Nat) (v : Int), (fNm K L Ls c)[k]? = some v → slc u P (tyc u P c 3 + (k : Int)) 0 = v) ∧ (SSz ar P u (tyc u P c 3) (fTy K L W ar TN Ls c) ∧ SSk P u k0 (tyc u P c 3) (fTy K L W ar TN Ls c)) ∧ ∀ Z ∈ fTy K L W ar TN Ls c, cdW (ar c) 0 Z ∧ cdT (TN.length : Int) Z := by
  have hnT := PR_nT h
  have hl24 := h.2.2.1.1
  have hc : 0 ≤ c ∧ c < (TN.length : Int) := by
    rcases Int.lt_or_le c 0 with q | q
    · have := h.2.2.2.2.2.1 c (Or.inl q)
      omega
    · rcases Int.lt_or_le c (TN.length : Int) with q2 | q2
      · exact ⟨q, q2⟩
      · have := h.2.2.2.2.2.1 c (Or.inr (by omega))
        omega
  obtain ⟨i, t, h1, h6, ec⟩ := ty_dc (K := K) (Ls := Ls) hc.1 (by have := hc.2; omega)
  obtain ⟨k1, k2⟩ := h.2.2.2.2.1 i t h1 h6
  rw [← ec] at k1 k2
  have hst : tSt K L false (0, t) = true := by
    by_cases q : tSt K L false (0, t) = true
    · exact q
    · rw [if_neg q] at k2
      omega
  have hat : (tyL K Ls)[c.toNat]? = some t := by
    rw [ec, Int.toNat_natCast]
    exact tyL_at Ls i t h1 h6
  have eN : fNm K L Ls c = tMe K L false (0, t) := by
    unfold fNm
    rw [hat]
  have eT : fTy K L W ar TN Ls c = (tMe K L false (0, t)).map (fun v => wdC K L W ar TN [] (tFo K L false (0, t)) (v + 1)) := by
    unfold fTy
    rw [hat]
  have tp6 := (tp_fact h h1).1
  have ed : dTp K L t = tFo K L false (0, t) := if_neg h6
  rw [ed] at tp6
  obtain ⟨-, e0, e2, e3, e4⟩ := (C.2.2.2.2.2.1 i t h1).1.2 h6
  rw [if_pos hst, ← ec] at e3
  rw [← ec] at e4
  have hlen := C.2.2.2.2.2.2.2.1
  have hle : (aSl K L 0 (Ls.take i)).length ≤ 4000 := by
    have e5 : Ls.take i ++ Ls.drop i = Ls := List.take_append_drop i Ls
    have key : ∀ (l l' : List Int) (g : Int), (aSl K L g l).length ≤ (aSl K L g (l ++ l')).length := fun l l' => by
      induction l with
      | nil => exact fun g => Nat.zero_le _
      | cons a l ih =>
        intro g
        rw [List.cons_append, aSl_cons, aSl_cons, List.length_append, List.length_append]
        have := ih (g + ((dHd K L a).length : Int))
        omega
    have := key (Ls.take i) (Ls.drop i) 0
    rw [e5] at this
    omega
  have hsl : ∀ (k : Nat) (v : Int), (tMe K L false (0, t))[k]? = some v → (sDc K L (kHd K L (Ls.take i) : Int) t)[(tFo K L false (0, t)).length + k]? = some (v, 2, v + 1, -1) := fun k v hv => by
    unfold sDc
    rw [if_neg h6]
    unfold tSlt
    rw [if_pos hst, app_at nmS_len]
    exact nmS_at hv
  obtain ⟨-, ff⟩ := ty_fact h h1 h6
  have hyp : ∀ (k : Nat) (x : Int × Int × Int × Int), (nmS 2 (-1) (tMe K L false (0, t)))[k]? = some x → (sDc K L (kHd K L (Ls.take i) : Int) t)[(tFo K L false (0, t)).length + k]? = some x ∧ 0 ≤ x.2.2.1 ∧ hfS K L Ls x.2.2.2 = [] := fun k x hk => by
    have hk2 := (List.getElem?_eq_some_iff.mp hk).1
    rw [nmS_len] at hk2
    have hv := List.getElem?_eq_getElem hk2
    have e5 := nmS_at (kd' := 2) (sg := -1) hv
    rw [hk] at e5
    have e6 : x = ((tMe K L false (0, t))[k], 2, (tMe K L false (0, t))[k] + 1, -1) := Option.some.inj e5
    refine ⟨?_, ?_, ?_⟩
    · rw [e6]
      exact hsl k _ hv
    · rw [e6]
      have := (ff hst _ (List.mem_of_getElem? hv)).1
      show 0 ≤ (tMe K L false (0, t))[k] + 1
      omega
    · rw [e6]
      exact hfS_n
  have key := cz_ss h C h1 (j0 := (tFo K L false (0, t)).length) (hf := []) (S := nmS 2 (-1) (tMe K L false (0, t))) hyp (Nat.zero_le _)
  have key2 := cz_sk C h1 (j0 := (tFo K L false (0, t)).length) (hf := []) (S := nmS 2 (-1) (tMe K L false (0, t))) hyp
  rw [ed] at key key2
  have em : (nmS 2 (-1) (tMe K L false (0, t))).map (fun x => wdC K L W ar TN [] (tFo K L false (0, t)) x.2.2.1) = (tMe K L false (0, t)).map (fun v => wdC K L W ar TN [] (tFo K L false (0, t)) (v + 1)) := by
    unfold nmS
    rw [List.map_map]
    rfl
  rw [em] at key key2
  have eb : tyc u P c 3 = (((aSl K L 0 (Ls.take i)).length + (tFo K L false (0, t)).length : Nat) : Int) := by rw [e3]; omega
  rw [eN, eT, e4, eb, List.length_map]
  refine ⟨hc, rfl, rfl, me_le, ⟨by omega, by omega⟩, fun k v hv => ?_, ⟨key, key2⟩, fun Z hZ => ?_⟩
  · have := (cz_sl C h1 (hsl k v hv)).1.2.1
    rw [show (((aSl K L 0 (Ls.take i)).length + (tFo K L false (0, t)).length : Nat) : Int) + (k : Int) = (((aSl K L 0 (Ls.take i)).length + ((tFo K L false (0, t)).length + k) : Nat) : Int) by omega]
    exact this
  · obtain ⟨v, hv, rfl⟩ := List.mem_map.mp hZ
    obtain ⟨-, f2, f3⟩ := ff hst v hv
    obtain ⟨o1, o2, o3, o4, -⟩ := wdC_ok (PR_ar h).1 (Nat.zero_le _) tp6 (by omega) f2 f3
    rw [k1]
    exact ⟨o3, o4⟩
end ZZPU
