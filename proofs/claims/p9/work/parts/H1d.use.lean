/-! FeatherBench$Shapes.enter -/
def s_c82 : List (Nat × cSg) := []
def an_82 : cN := [(([.inr (.inl [75]), kint, kint, kint], [], [], []), [(0, 10)]),
  (([.inr (.inl [75]), kint, kint, kint], [(.inr (.inl [75]), none)], [], []), [(0, 9)]),
  (([.inr (.inl [75]), kint, kint, kint], [(kint, some 1), (.inr (.inl [75]), none)], [], []), [(0, 8)]),
  (([.inr (.inl [75]), kint, kint, kint], [], [], []), [(0, 7)]),
  (([.inr (.inl [75]), kint, kint, kint], [(.inr (.inl [75]), none)], [], []), [(0, 6)]),
  (([.inr (.inl [75]), kint, kint, kint], [(kint, some 2), (.inr (.inl [75]), none)], [], []), [(0, 5)]),
  (([.inr (.inl [75]), kint, kint, kint], [], [], []), [(0, 4)]),
  (([.inr (.inl [75]), kint, kint, kint], [(.inr (.inl [75]), none)], [], []), [(0, 3)]),
  (([.inr (.inl [75]), kint, kint, kint], [(kint, some 3), (.inr (.inl [75]), none)], [], []), [(0, 2)]),
  (([.inr (.inl [75]), kint, kint, kint], [], [], []), [(0, 1)])]
theorem c_82 {d : Nat} (hc : ∀ p ∈ s_c82, CTR (yex d) p.1 p.2) : CTR (yex (d + 1)) 82 q_82 := chk_ok (AN := an_82) (L := xL_7) (ml := 4) (ret := none) (E := xE_82) rfl rfl rfl (by decide +kernel) hc
/-! ===== the class: what its methods must be given (by wip/p2/cdec.py) ===== -/
def wuL : List (Nat × Nat) := [(7, 0), (7, 1), (7, 2), (7, 3), (7, 4), (7, 5), (7, 6)]
/-! FeatherBench$Shapes.use -/
def wk_81 (P : Nat) : Nat → wW
  | _ => (((84, 5), P, []) : wW)
def s_w81 : List (Nat × cSg) := [(82, q_82)]
def w_81_0 (T : Nat → Nat → List Value → sW → (Option Value → sW → Prop) → Prop) (P : Nat)  (a2 : Int32) (sa : Int32) (sk : Int32) (sf : Int32) (sc : Int32) (sz : Int32) (Q : Option Value → sW → Prop) : Prop :=
  Q none (sa, sk, sf, sc, sz)
set_option maxRecDepth 20000 in
theorem k_81_0_3 {d d0 : Nat} (hd : d = d0 + 4) (hc : ∀ p ∈ s_w81, CTR (yex d) p.1 p.2)  {a2 : Int32} {sa : Int32} {sk : Int32} {sf : Int32} {sc : Int32} {sz : Int32} {Q : Option Value → sW → Prop}  (h : w_81_0 (fun k => Tt d wuL (wk_81 3 k) (wk_81 3 k)) 3  a2 sa sk sf sc sz Q) : Rn d wuL (((84, 5), 3, []) : wW) (((84, 5), 3, [(75, 2, 25), (75, 1, 21), (75, 0, 3)]) : wW) xL_7 3 (none) xE_81 (xE_81.drop 0) [.ref 75, .ref 3, .int a2, .null, .null, .null] [] (sa, sk, sf, sc, sz) Q := by
  unfold w_81_0 at h
  refine n_ld rfl rfl rfl ?_
  refine n_ld rfl rfl rfl ?_
  refine n_put (a := 75) (w1 := (((84, 5), 3, [(75, 0, 3)]) : wW)) (s1 := (sa, sk, sf, sc, sz)) rfl rfl rfl rfl ⟨_, rfl, cmem_ok rfl⟩ rfl rfl rfl (Or.inr (Or.inl (by decide +kernel))) (ws_cf (w := (((84, 5), 3, []) : wW)) (s := (sa, sk, sf, sc, sz)) (a := 75) (k := 0) (b := 3) rfl) ?_
  refine n_ld rfl rfl rfl ?_
  refine n_ld rfl rfl rfl ?_
  refine n_get (v := .ref 3) rfl (hv_C (a := 75) (n := 0) rfl rfl rfl) ?_
  refine n_get (v := .ref 21) rfl (hv_R (a := 3) rfl rfl) ?_
  refine n_put (a := 75) (w1 := (((84, 5), 3, [(75, 1, 21), (75, 0, 3)]) : wW)) (s1 := (sa, sk, sf, sc, sz)) rfl rfl rfl rfl ⟨_, rfl, cmem_ok rfl⟩ rfl rfl rfl (Or.inr (Or.inl (by decide +kernel))) (ws_cf (w := (((84, 5), 3, [(75, 0, 3)]) : wW)) (s := (sa, sk, sf, sc, sz)) (a := 75) (k := 1) (b := 21) rfl) ?_
  refine n_ld rfl rfl rfl ?_
  refine n_ld rfl rfl rfl ?_
  refine n_get (v := .ref 3) rfl (hv_C (a := 75) (n := 1) rfl rfl rfl) ?_
  refine n_get (v := .ref 25) rfl (hv_R (a := 3) rfl rfl) ?_
  refine n_put (a := 75) (w1 := (((84, 5), 3, [(75, 2, 25), (75, 1, 21), (75, 0, 3)]) : wW)) (s1 := (sa, sk, sf, sc, sz)) rfl rfl rfl rfl ⟨_, rfl, cmem_ok rfl⟩ rfl rfl rfl (Or.inr (Or.inl (by decide +kernel))) (ws_cf (w := (((84, 5), 3, [(75, 1, 21), (75, 0, 3)]) : wW)) (s := (sa, sk, sf, sc, sz)) (a := 75) (k := 2) (b := 25) rfl) ?_
  refine n_ld rfl rfl rfl ?_
  refine n_ld rfl rfl rfl ?_
  refine n_put (a := 75) (w1 := (((84, 5), 3, [(75, 2, 25), (75, 1, 21), (75, 0, 3)]) : wW)) (s1 := (sa, sk, sf, sc, sz)) rfl rfl rfl rfl (vK_int _) rfl rfl rfl (Or.inr (Or.inl (by decide +kernel))) (ws_no (w := (((84, 5), 3, [(75, 2, 25), (75, 1, 21), (75, 0, 3)]) : wW)) (s := (sa, sk, sf, sc, sz)) (a := 75) (k := 3) rfl) ?_
  refine n_ld rfl rfl rfl ?_
  refine n_c [.int (-1), .ref 75] (xo_push (.int (-1))) rfl rfl ?_
  refine n_c [.int (-1), .int (-1), .ref 75] (xo_push (.int (-1))) rfl rfl ?_
  refine n_c [.int (-1), .int (-1), .int (-1), .ref 75] (xo_push (.int (-1))) rfl rfl ?_
  refine n_ctr [.ref 75, .int (-1), .int (-1), .int (-1)] [] rfl rfl rfl (hc (82, q_82) (List.mem_of_getElem? (i := 0) rfl)) ⟨⟨_, rfl, cmem_ok rfl⟩, vK_int _, vK_int _, vK_int _, trivial⟩ rfl rfl (fun vq sq hv hk => ?_)
  obtain ⟨sa1, sk2, sf3, sc4, sz5⟩ := sq
  obtain ⟨k1, k2, k3, k4, k5, k6, k7⟩ := hk
  obtain rfl : sa = sa1 := (k1 (wmem_no rfl)).symm
  obtain rfl : sk = sk2 := (k2).symm
  obtain rfl : sf = sf3 := (k3 (wmem_no rfl)).symm
  obtain rfl : sc = sc4 := (k5 (wmem_no rfl)).symm
  obtain rfl : sz = sz5 := (k6 (wmem_no rfl)).symm
  cases (show vq = none from hv)
  change Rn _ _ _ _ _ _ _ _ _ _ [] _ _
  exact n_ret0 rfl h
theorem t_81_3 {d : Nat} (hc : ∀ p ∈ s_w81, CTR (yex (d + 4)) p.1 p.2) {a2 : Int32} {sa : Int32} {sk : Int32} {sf : Int32} {sc : Int32} {sz : Int32} {Q : Option Value → sW → Prop} (h : w_81_0 (fun k => Tt (d + 4) wuL (wk_81 3 k) (wk_81 3 k)) 3 a2 sa sk sf sc sz Q) : Tt (d + 5) wuL (((84, 5), 3, []) : wW) (((84, 5), 3, [(75, 2, 25), (75, 1, 21), (75, 0, 3)]) : wW) 81 [.ref 75, .ref 3, .int a2] (sa, sk, sf, sc, sz) Q := tt_of (E := xE_81) (L := xL_7) (ml := 3) (ret := none) rfl rfl rfl (k_81_0_3 rfl hc h)
set_option maxRecDepth 20000 in
theorem k_81_0_39 {d d0 : Nat} (hd : d = d0 + 4) (hc : ∀ p ∈ s_w81, CTR (yex d) p.1 p.2)  {a2 : Int32} {sa : Int32} {sk : Int32} {sf : Int32} {sc : Int32} {sz : Int32} {Q : Option Value → sW → Prop}  (h : w_81_0 (fun k => Tt d wuL (wk_81 39 k) (wk_81 39 k)) 39  a2 sa sk sf sc sz Q) : Rn d wuL (((84, 5), 39, []) : wW) (((84, 5), 39, [(75, 2, 61), (75, 1, 57), (75, 0, 39)]) : wW) xL_7 3 (none) xE_81 (xE_81.drop 0) [.ref 75, .ref 39, .int a2, .null, .null, .null] [] (sa, sk, sf, sc, sz) Q := by
  unfold w_81_0 at h
  refine n_ld rfl rfl rfl ?_
  refine n_ld rfl rfl rfl ?_
  refine n_put (a := 75) (w1 := (((84, 5), 39, [(75, 0, 39)]) : wW)) (s1 := (sa, sk, sf, sc, sz)) rfl rfl rfl rfl ⟨_, rfl, cmem_ok rfl⟩ rfl rfl rfl (Or.inr (Or.inl (by decide +kernel))) (ws_cf (w := (((84, 5), 39, []) : wW)) (s := (sa, sk, sf, sc, sz)) (a := 75) (k := 0) (b := 39) rfl) ?_
  refine n_ld rfl rfl rfl ?_
  refine n_ld rfl rfl rfl ?_
  refine n_get (v := .ref 39) rfl (hv_C (a := 75) (n := 0) rfl rfl rfl) ?_
  refine n_get (v := .ref 57) rfl (hv_R (a := 39) rfl rfl) ?_
  refine n_put (a := 75) (w1 := (((84, 5), 39, [(75, 1, 57), (75, 0, 39)]) : wW)) (s1 := (sa, sk, sf, sc, sz)) rfl rfl rfl rfl ⟨_, rfl, cmem_ok rfl⟩ rfl rfl rfl (Or.inr (Or.inl (by decide +kernel))) (ws_cf (w := (((84, 5), 39, [(75, 0, 39)]) : wW)) (s := (sa, sk, sf, sc, sz)) (a := 75) (k := 1) (b := 57) rfl) ?_
  refine n_ld rfl rfl rfl ?_
  refine n_ld rfl rfl rfl ?_
  refine n_get (v := .ref 39) rfl (hv_C (a := 75) (n := 1) rfl rfl rfl) ?_
  refine n_get (v := .ref 61) rfl (hv_R (a := 39) rfl rfl) ?_
  refine n_put (a := 75) (w1 := (((84, 5), 39, [(75, 2, 61), (75, 1, 57), (75, 0, 39)]) : wW)) (s1 := (sa, sk, sf, sc, sz)) rfl rfl rfl rfl ⟨_, rfl, cmem_ok rfl⟩ rfl rfl rfl (Or.inr (Or.inl (by decide +kernel))) (ws_cf (w := (((84, 5), 39, [(75, 1, 57), (75, 0, 39)]) : wW)) (s := (sa, sk, sf, sc, sz)) (a := 75) (k := 2) (b := 61) rfl) ?_
  refine n_ld rfl rfl rfl ?_
  refine n_ld rfl rfl rfl ?_
  refine n_put (a := 75) (w1 := (((84, 5), 39, [(75, 2, 61), (75, 1, 57), (75, 0, 39)]) : wW)) (s1 := (sa, sk, sf, sc, sz)) rfl rfl rfl rfl (vK_int _) rfl rfl rfl (Or.inr (Or.inl (by decide +kernel))) (ws_no (w := (((84, 5), 39, [(75, 2, 61), (75, 1, 57), (75, 0, 39)]) : wW)) (s := (sa, sk, sf, sc, sz)) (a := 75) (k := 3) rfl) ?_
  refine n_ld rfl rfl rfl ?_
  refine n_c [.int (-1), .ref 75] (xo_push (.int (-1))) rfl rfl ?_
  refine n_c [.int (-1), .int (-1), .ref 75] (xo_push (.int (-1))) rfl rfl ?_
  refine n_c [.int (-1), .int (-1), .int (-1), .ref 75] (xo_push (.int (-1))) rfl rfl ?_
  refine n_ctr [.ref 75, .int (-1), .int (-1), .int (-1)] [] rfl rfl rfl (hc (82, q_82) (List.mem_of_getElem? (i := 0) rfl)) ⟨⟨_, rfl, cmem_ok rfl⟩, vK_int _, vK_int _, vK_int _, trivial⟩ rfl rfl (fun vq sq hv hk => ?_)
  obtain ⟨sa1, sk2, sf3, sc4, sz5⟩ := sq
  obtain ⟨k1, k2, k3, k4, k5, k6, k7⟩ := hk
  obtain rfl : sa = sa1 := (k1 (wmem_no rfl)).symm
  obtain rfl : sk = sk2 := (k2).symm
  obtain rfl : sf = sf3 := (k3 (wmem_no rfl)).symm
  obtain rfl : sc = sc4 := (k5 (wmem_no rfl)).symm
  obtain rfl : sz = sz5 := (k6 (wmem_no rfl)).symm
  cases (show vq = none from hv)
  change Rn _ _ _ _ _ _ _ _ _ _ [] _ _
  exact n_ret0 rfl h
theorem t_81_39 {d : Nat} (hc : ∀ p ∈ s_w81, CTR (yex (d + 4)) p.1 p.2) {a2 : Int32} {sa : Int32} {sk : Int32} {sf : Int32} {sc : Int32} {sz : Int32} {Q : Option Value → sW → Prop} (h : w_81_0 (fun k => Tt (d + 4) wuL (wk_81 39 k) (wk_81 39 k)) 39 a2 sa sk sf sc sz Q) : Tt (d + 5) wuL (((84, 5), 39, []) : wW) (((84, 5), 39, [(75, 2, 61), (75, 1, 57), (75, 0, 39)]) : wW) 81 [.ref 75, .ref 39, .int a2] (sa, sk, sf, sc, sz) Q := tt_of (E := xE_81) (L := xL_7) (ml := 3) (ret := none) rfl rfl rfl (k_81_0_39 rfl hc h)
/-- Shapes.use -/
theorem u_81 {d d0 : Nat} (hd : d = d0 + 6) {P : Nat} {z : Int32} {c c' : List (Nat × Nat × Nat)} {s : sW} (hP : (Nat.beq P 3 || Nat.beq P 39) = true) (hs : s3 c c' = true) (hx : x3 wuL [] c' = true) : Tt d wuL ((84, 5), P, c) ((84, 5), P, (75, 0, P) :: (75, 1, P + 18) :: (75, 2, P + 22) :: c') 81 [.ref 75, .ref P, .int z] s (fun v s1 => v = none ∧ s1 = s) := by
  subst hd
  obtain ⟨sa, sk, sf, sc, sz⟩ := s
  have hc : ∀ p ∈ s_w81, CTR (yex (d0 + 1 + 4)) p.1 p.2 := a_cns (CTR_mo (by omega) (c_82 (d := 0) a_nil)) a_nil
  rw [Bool.or_eq_true] at hP
  have hx' : ∀ {P1 P2 P3 : Nat}, x3 wuL [(75, 2, P3), (75, 1, P2), (75, 0, P1)] ((75, 0, P1) :: (75, 1, P2) :: (75, 2, P3) :: c') = true := by
    intro P1 P2 P3
    have m : ∀ (l : List (Nat × Nat × Nat)) (c1 c2 : List (Nat × Nat × Nat)), (∀ p, m3 p c1 = true → m3 p c2 = true) → x3 wuL c1 l = true → x3 wuL c2 l = true := by
      intro l c1 c2 hm
      induction l with
      | nil => exact fun h => h
      | cons q l ih =>
        intro h
        unfold x3 at h ⊢
        rw [Bool.and_eq_true, Bool.or_eq_true] at h ⊢
        exact ⟨h.1.imp (hm q) id, ih h.2⟩
    have e1 := m c' [] [(75, 2, P3), (75, 1, P2), (75, 0, P1)] (fun p h => by cases h) hx
    unfold x3 x3 x3
    rw [e1]
    unfold m3 m3 m3
    dsimp only
    rw [show Nat.beq P1 P1 = true from Nat.beq_refl P1, show Nat.beq P2 P2 = true from Nat.beq_refl P2, show Nat.beq P3 P3 = true from Nat.beq_refl P3]
    rfl
  have hs' : ∀ {P1 P2 P3 : Nat}, s3 (c ++ [(75, 2, P3), (75, 1, P2), (75, 0, P1)]) ((75, 0, P1) :: (75, 1, P2) :: (75, 2, P3) :: c') = true := by
    intro P1 P2 P3
    have mk : ∀ (l : List (Nat × Nat × Nat)) (c2 : List (Nat × Nat × Nat)), (∀ p ∈ c2, p ∈ l) → s3 l c2 = true := by
      intro l c2
      induction c2 with
      | nil => exact fun _ => rfl
      | cons q c2 ih =>
        intro h
        unfold s3
        rw [Bool.and_eq_true]
        refine ⟨?_, ih (fun p hp => h p (List.mem_cons_of_mem _ hp))⟩
        have hq := h q List.mem_cons_self
        clear ih h
        induction l with
        | nil => exact absurd hq List.not_mem_nil
        | cons r l ih =>
          unfold m3
          rw [Bool.or_eq_true]
          rcases List.mem_cons.mp hq with rfl | hq
          · left
            rw [Nat.beq_refl, Nat.beq_refl, Nat.beq_refl]
            rfl
          · exact Or.inr (ih hq)
    refine mk _ _ (fun p hp => ?_)
    rcases List.mem_cons.mp hp with rfl | hp
    · exact List.mem_append_right _ (List.mem_cons_of_mem _ (List.mem_cons_of_mem _ List.mem_cons_self))
    · rcases List.mem_cons.mp hp with rfl | hp
      · exact List.mem_append_right _ (List.mem_cons_of_mem _ List.mem_cons_self)
      · rcases List.mem_cons.mp hp with rfl | hp
        · exact List.mem_append_right _ List.mem_cons_self
        · exact List.mem_append_left _ (s3_ok hs hp)
  rcases hP with h | h
  · rw [Nat.eq_of_beq_eq_true h]
    exact Tt_wk (t_81_3 (d := d0 + 1) (Q := fun v s1 => v = none ∧ s1 = (sa, sk, sf, sc, sz)) hc ⟨rfl, rfl⟩) rfl hx' hs'
  · rw [Nat.eq_of_beq_eq_true h]
    exact Tt_wk (t_81_39 (d := d0 + 1) (Q := fun v s1 => v = none ∧ s1 = (sa, sk, sf, sc, sz)) hc ⟨rfl, rfl⟩) rfl hx' hs'
