/-! ===== the class: what its methods must be given (by wip/p2/cdec.py) ===== -/
def wcL : List (Nat × Nat) := [(0, 4), (0, 5), (0, 6), (1, 2), (1, 3), (1, 4), (1, 5), (1, 6), (1, 7), (2, 10), (2, 11), (2, 13), (4, 10), (4, 11), (4, 12), (4, 13), (4, 14), (5, 0), (5, 1), (5, 2), (5, 3), (6, 1), (6, 2), (7, 0), (7, 1), (7, 2), (7, 3), (7, 4), (7, 5), (7, 6), (8, 8), (8, 9), (10, 1), (10, 2), (11, 9), (11, 10), (11, 11), (100, 2), (101, 1), (101, 2), (200, 14)]
/-! FeatherBench.program -/
def wk_140a (P : Nat) : Nat → wW
  | 0 => (((84, 5), P, [(0, 9, 39), (0, 10, P)]) : wW)
  | _ => (((84, 5), P, [(75, 0, P), (75, 1, (P + 18)), (75, 2, (P + 22)), (0, 9, 39), (0, 10, P)]) : wW)
def s_w140 : List (Nat × cSg) := [(61, q_61), (122, q_122), (134, q_134), (136, q_136), (17, q_17), (94, q_94)]
def wk_140c (P : Nat) : Nat → wW
  | 0 => (((84, 5), P, [(0, 9, 3), (0, 10, P)]) : wW)
  | _ => (((84, 5), P, [(75, 0, P), (75, 1, (P + 18)), (75, 2, (P + 22)), (0, 9, 3), (0, 10, P)]) : wW)
def wk_140b (P : Nat) : Nat → wW
  | 0 => (((84, 5), P, [(0, 9, P), (0, 10, P)]) : wW)
  | _ => (((84, 5), P, [(75, 0, P), (75, 1, (P + 18)), (75, 2, (P + 22)), (0, 9, P), (0, 10, P)]) : wW)
def w_140_0 (T : Nat → Nat → List Value → sW → (Option Value → sW → Prop) → Prop) (P : Nat)  (sa : Int32) (sk : Int32) (sf : Int32) (sc : Int32) (sz : Int32) (Q : Option Value → sW → Prop) : Prop :=
  T 0 37 [.ref P, .ref 1] (sa, sk, sf, sc, sz) (fun v6 (sa1, sk2, sf3, sc4, sz5) => v6 = none ∧ (T 0 79 [.ref 1] (sa1, sk2, sf3, sc4, sz5) (fun v12 (sa7, sk8, sf9, sc10, sz11) => v12 = none ∧ (∀ sf15 : Int32, (sf15.toInt = 0 → sf9.toInt = 0) → ∀ sf20 : Int32, (sf20.toInt = 0 → sf15.toInt = 0) → T 1 128 [.ref 83, .ref P] (sa7, sk8, sf20, sc10, sz11) (fun v28 (sa23, sk24, sf25, sc26, sz27) => v28 = none ∧ (∀ sf31 : Int32, (sf31.toInt = 0 → sf25.toInt = 0) → ∀ sf36 : Int32, (sf36.toInt = 0 → sf31.toInt = 0) → T 1 5 [.ref 84, .ref P] (sa23, sk24, sf36, sc26, sz27) (fun v44 (sa39, sk40, sf41, sc42, sz43) => v44 = none ∧ ((sf41.toInt = 0 → Q (some (.int 0)) (sa39, sk40, sf41, sc42, sz43)) ∧ (¬ (sf41.toInt = 0) → Q (some (.int sf41)) (sa39, sk40, sf41, sc42, sz43))))))))))
set_option maxRecDepth 20000 in
theorem k_140_0_3a {d d0 : Nat} (hd : d = d0 + 6) (hc : ∀ p ∈ s_w140, CTR (yex d) p.1 p.2)  {sa : Int32} {sk : Int32} {sf : Int32} {sc : Int32} {sz : Int32} {Q : Option Value → sW → Prop}  (h : w_140_0 (fun k => Tt d wcL (wk_140a 3 k) (wk_140a 3 k)) 3  sa sk sf sc sz Q) : Rn d wcL (((84, 5), 3, [(0, 9, 39), (0, 10, 3)]) : wW) (((84, 5), 3, [(75, 0, 3), (75, 1, 21), (75, 2, 25)]) : wW) xL_11 2 (some .int) xE_140 (xE_140.drop 0) [.ref 0, .null, .null] [] (sa, sk, sf, sc, sz) Q := by
  unfold w_140_0 at h
  refine n_ld rfl rfl rfl ?_
  refine n_get (v := .ref 3) rfl (hv_C (a := 0) (n := 1) rfl rfl rfl) ?_
  refine n_st [.ref 0, .ref 3, .null] rfl rfl rfl ?_
  refine n_ld rfl rfl rfl ?_
  refine n_ld rfl rfl rfl ?_
  refine n_get (v := .ref 1) rfl (hv_R (a := 0) rfl rfl) ?_
  refine n_tt [.ref 3, .ref 1] [] rfl rfl rfl rfl (Tt.imp h (fun v6 sq h => ?_))
  obtain ⟨sa1, sk2, sf3, sc4, sz5⟩ := sq
  obtain ⟨rfl, h⟩ := h
  change Rn _ _ _ _ _ _ _ _ _ _ [] _ _
  refine n_ld rfl rfl rfl ?_
  refine n_get (v := .ref 1) rfl (hv_R (a := 0) rfl rfl) ?_
  refine n_tt [.ref 1] [] rfl rfl rfl rfl (Tt.imp h (fun v12 sq h => ?_))
  obtain ⟨sa7, sk8, sf9, sc10, sz11⟩ := sq
  obtain ⟨rfl, h⟩ := h
  change Rn _ _ _ _ _ _ _ _ _ _ [] _ _
  refine n_ld rfl rfl rfl ?_
  refine n_get (v := .ref 75) rfl (hv_R (a := 0) rfl rfl) ?_
  refine n_ld rfl rfl rfl ?_
  refine n_c [.int 18, .ref 3, .ref 75] (xo_push (.int 18)) rfl rfl ?_
  refine n_tt [.ref 75, .ref 3, .int 18] [] (w1 := (((84, 5), 3, [(75, 0, 3), (75, 1, 21), (75, 2, 25), (0, 9, 39), (0, 10, 3)]) : wW)) rfl rfl rfl rfl (Tt.imp (u_81 hd (P := 3) rfl rfl rfl) (fun v1 s1 hq => ?_))
  obtain ⟨rfl, rfl⟩ := hq
  change Rn _ _ _ _ _ _ _ _ _ _ [] _ _
  refine n_ld rfl rfl rfl ?_
  refine n_get (v := .ref 82) rfl (hv_R (a := 0) rfl rfl) ?_
  refine n_ld rfl rfl rfl ?_
  refine n_ctr [.ref 82, .ref 3] [] rfl rfl rfl (hc (61, q_61) (List.mem_of_getElem? (i := 0) rfl)) ⟨⟨_, rfl, cmem_ok rfl⟩, ⟨_, rfl, cmem_ok rfl⟩, trivial⟩ rfl rfl (fun vq sq hv hk => ?_)
  obtain ⟨sa13, sk14, sf15, sc16, sz17⟩ := sq
  obtain ⟨k1, k2, k3, k4, k5, k6, k7⟩ := hk
  obtain rfl : sa7 = sa13 := (k1 (wmem_no rfl)).symm
  obtain rfl : sk8 = sk14 := (k2).symm
  replace h := h sf15 (k4 (wmem_no rfl))
  obtain rfl : sc10 = sc16 := (k5 (wmem_no rfl)).symm
  obtain rfl : sz11 = sz17 := (k6 (wmem_no rfl)).symm
  cases (show vq = none from hv)
  change Rn _ _ _ _ _ _ _ _ _ _ [] _ _
  refine n_ld rfl rfl rfl ?_
  refine n_get (v := .ref 83) rfl (hv_R (a := 0) rfl rfl) ?_
  refine n_ld rfl rfl rfl ?_
  refine n_ctr [.ref 83, .ref 3] [] rfl rfl rfl (hc (122, q_122) (List.mem_of_getElem? (i := 1) rfl)) ⟨⟨_, rfl, cmem_ok rfl⟩, ⟨_, rfl, cmem_ok rfl⟩, trivial⟩ rfl rfl (fun vq sq hv hk => ?_)
  obtain ⟨sa18, sk19, sf20, sc21, sz22⟩ := sq
  obtain ⟨k1, k2, k3, k4, k5, k6, k7⟩ := hk
  obtain rfl : sa7 = sa18 := (k1 (wmem_no rfl)).symm
  obtain rfl : sk8 = sk19 := (k2).symm
  replace h := h sf20 (k4 (wmem_no rfl))
  obtain rfl : sc10 = sc21 := (k5 (wmem_no rfl)).symm
  obtain rfl : sz11 = sz22 := (k6 (wmem_no rfl)).symm
  cases (show vq = none from hv)
  change Rn _ _ _ _ _ _ _ _ _ _ [] _ _
  refine n_ld rfl rfl rfl ?_
  refine n_get (v := .ref 83) rfl (hv_R (a := 0) rfl rfl) ?_
  refine n_ld rfl rfl rfl ?_
  refine n_tt [.ref 83, .ref 3] [] rfl rfl rfl rfl (Tt.imp h (fun v28 sq h => ?_))
  obtain ⟨sa23, sk24, sf25, sc26, sz27⟩ := sq
  obtain ⟨rfl, h⟩ := h
  change Rn _ _ _ _ _ _ _ _ _ _ [] _ _
  refine n_ld rfl rfl rfl ?_
  refine n_get (v := .ref 83) rfl (hv_R (a := 0) rfl rfl) ?_
  refine n_ld rfl rfl rfl ?_
  refine n_ctr [.ref 83, .ref 3] [] rfl rfl rfl (hc (134, q_134) (List.mem_of_getElem? (i := 2) rfl)) ⟨⟨_, rfl, cmem_ok rfl⟩, ⟨_, rfl, cmem_ok rfl⟩, trivial⟩ rfl rfl (fun vq sq hv hk => ?_)
  obtain ⟨sa29, sk30, sf31, sc32, sz33⟩ := sq
  obtain ⟨k1, k2, k3, k4, k5, k6, k7⟩ := hk
  obtain rfl : sa23 = sa29 := (k1 (wmem_no rfl)).symm
  obtain rfl : sk24 = sk30 := (k2).symm
  replace h := h sf31 (k4 (wmem_no rfl))
  obtain rfl : sc26 = sc32 := (k5 (wmem_no rfl)).symm
  obtain rfl : sz27 = sz33 := (k6 (wmem_no rfl)).symm
  cases (show vq = none from hv)
  change Rn _ _ _ _ _ _ _ _ _ _ [] _ _
  refine n_ld rfl rfl rfl ?_
  refine n_get (v := .ref 83) rfl (hv_R (a := 0) rfl rfl) ?_
  refine n_ld rfl rfl rfl ?_
  refine n_ctr [.ref 83, .ref 3] [] rfl rfl rfl (hc (136, q_136) (List.mem_of_getElem? (i := 3) rfl)) ⟨⟨_, rfl, cmem_ok rfl⟩, ⟨_, rfl, cmem_ok rfl⟩, trivial⟩ rfl rfl (fun vq sq hv hk => ?_)
  obtain ⟨sa34, sk35, sf36, sc37, sz38⟩ := sq
  obtain ⟨k1, k2, k3, k4, k5, k6, k7⟩ := hk
  obtain rfl : sa23 = sa34 := (k1 (wmem_no rfl)).symm
  obtain rfl : sk24 = sk35 := (k2).symm
  replace h := h sf36 (k4 (wmem_no rfl))
  obtain rfl : sc26 = sc37 := (k5 (wmem_no rfl)).symm
  obtain rfl : sz27 = sz38 := (k6 (wmem_no rfl)).symm
  cases (show vq = none from hv)
  change Rn _ _ _ _ _ _ _ _ _ _ [] _ _
  refine n_ld rfl rfl rfl ?_
  refine n_get (v := .ref 84) rfl (hv_R (a := 0) rfl rfl) ?_
  refine n_ld rfl rfl rfl ?_
  refine n_tt [.ref 84, .ref 3] [] rfl rfl rfl rfl (Tt.imp h (fun v44 sq h => ?_))
  obtain ⟨sa39, sk40, sf41, sc42, sz43⟩ := sq
  obtain ⟨rfl, h⟩ := h
  change Rn _ _ _ _ _ _ _ _ _ _ [] _ _
  refine n_ld rfl rfl rfl ?_
  refine n_get (v := .int sf41) rfl (hv_f (a := 3) rfl rfl (fun _ _ hw => hw.1.2.2.1)) ?_
  refine n_brP rfl rfl ⟨fun hcn => ?_, fun hcn => ?_⟩
  · replace h := h.1 ((i_eq (x := sf41) (y := 0) rfl (show (0 : Int32).toInt = 0 by decide)).mp hcn)
    refine n_ld rfl rfl rfl ?_
    refine n_ld rfl rfl rfl ?_
    refine n_get (v := .ref 39) rfl (hv_C (a := 0) (n := 3) rfl rfl rfl) ?_
    refine n_wk (c := [(75, 0, 3), (75, 1, 21), (75, 2, 25), (0, 9, 39)]) rfl ?_
    refine n_put (a := 0) (w1 := (((84, 5), 3, [(0, 10, 39), (75, 0, 3), (75, 1, 21), (75, 2, 25), (0, 9, 39)]) : wW)) (s1 := (sa39, sk40, sf41, sc42, sz43)) rfl rfl rfl rfl ⟨_, rfl, cmem_ok rfl⟩ rfl rfl rfl (Or.inr (Or.inl (by decide +kernel))) (ws_cf (w := (((84, 5), 3, [(75, 0, 3), (75, 1, 21), (75, 2, 25), (0, 9, 39)]) : wW)) (s := (sa39, sk40, sf41, sc42, sz43)) (a := 0) (k := 10) (b := 39) rfl) ?_
    refine n_ld rfl rfl rfl ?_
    refine n_ld rfl rfl rfl ?_
    refine n_wk (c := [(0, 10, 39), (75, 0, 3), (75, 1, 21), (75, 2, 25)]) rfl ?_
    refine n_put (a := 0) (w1 := (((84, 5), 3, [(0, 9, 3), (0, 10, 39), (75, 0, 3), (75, 1, 21), (75, 2, 25)]) : wW)) (s1 := (sa39, sk40, sf41, sc42, sz43)) rfl rfl rfl rfl ⟨_, rfl, cmem_ok rfl⟩ rfl rfl rfl (Or.inr (Or.inl (by decide +kernel))) (ws_cf (w := (((84, 5), 3, [(0, 10, 39), (75, 0, 3), (75, 1, 21), (75, 2, 25)]) : wW)) (s := (sa39, sk40, sf41, sc42, sz43)) (a := 0) (k := 9) (b := 3) rfl) ?_
    refine n_ld rfl rfl rfl ?_
    refine n_c [.int 1, .ref 0] (xo_push (.int 1)) rfl rfl ?_
    refine n_put (a := 0) (w1 := (((84, 5), 3, [(0, 9, 3), (0, 10, 39), (75, 0, 3), (75, 1, 21), (75, 2, 25)]) : wW)) (s1 := (sa39, sk40, sf41, sc42, sz43)) rfl rfl rfl rfl ⟨_, rfl, by decide, by decide⟩ rfl rfl rfl (Or.inr (Or.inl (by decide +kernel))) (ws_no (w := (((84, 5), 3, [(0, 9, 3), (0, 10, 39), (75, 0, 3), (75, 1, 21), (75, 2, 25)]) : wW)) (s := (sa39, sk40, sf41, sc42, sz43)) (a := 0) (k := 11) rfl) ?_
    refine n_ld rfl rfl rfl ?_
    refine n_get (v := .ref 105) rfl (hv_R (a := 0) rfl rfl) ?_
    refine n_ctr [.ref 105] [] rfl rfl rfl (hc (17, q_17) (List.mem_of_getElem? (i := 4) rfl)) ⟨⟨_, rfl, cmem_ok rfl⟩, trivial⟩ rfl rfl (fun vq sq hv hk => ?_)
    obtain ⟨sa45, sk46, sf47, sc48, sz49⟩ := sq
    obtain ⟨k1, k2, k3, k4, k5, k6, k7⟩ := hk
    obtain rfl : sa39 = sa45 := (k1 (wmem_no rfl)).symm
    obtain rfl : sk40 = sk46 := (k2).symm
    obtain rfl : sf41 = sf47 := (k3 (wmem_no rfl)).symm
    obtain rfl : sc42 = sc48 := (k5 (wmem_no rfl)).symm
    obtain rfl : sz43 = sz49 := (k6 (wmem_no rfl)).symm
    cases (show vq = none from hv)
    change Rn _ _ _ _ _ _ _ _ _ _ [] _ _
    refine n_ld rfl rfl rfl ?_
    refine n_get (v := .ref 197) rfl (hv_R (a := 0) rfl rfl) ?_
    refine n_ctr [.ref 197] [] rfl rfl rfl (hc (94, q_94) (List.mem_of_getElem? (i := 5) rfl)) ⟨⟨_, rfl, cmem_ok rfl⟩, trivial⟩ rfl rfl (fun vq sq hv hk => ?_)
    obtain ⟨sa50, sk51, sf52, sc53, sz54⟩ := sq
    obtain ⟨k1, k2, k3, k4, k5, k6, k7⟩ := hk
    obtain rfl : sa39 = sa50 := (k1 (wmem_no rfl)).symm
    obtain rfl : sk40 = sk51 := (k2).symm
    obtain rfl : sf41 = sf52 := (k3 (wmem_no rfl)).symm
    obtain rfl : sc42 = sc53 := (k5 (wmem_no rfl)).symm
    obtain rfl : sz43 = sz54 := (k6 (wmem_no rfl)).symm
    cases (show vq = none from hv)
    change Rn _ _ _ _ _ _ _ _ _ _ [] _ _
    refine n_c [.int 0] (xo_push (.int 0)) rfl rfl ?_
    refine n_wk (c := [(75, 0, 3), (75, 1, 21), (75, 2, 25)]) rfl ?_
    exact n_retI rfl h
  · replace h := h.2 (fun q => hcn ((i_eq (x := sf41) (y := 0) rfl (show (0 : Int32).toInt = 0 by decide)).mpr q))
    refine n_ld rfl rfl rfl ?_
    refine n_get (v := .int sf41) rfl (hv_f (a := 3) rfl rfl (fun _ _ hw => hw.1.2.2.1)) ?_
    refine n_wk (c := [(75, 0, 3), (75, 1, 21), (75, 2, 25)]) rfl ?_
    exact n_retI rfl h
theorem t_140_3a {d : Nat} (hc : ∀ p ∈ s_w140, CTR (yex (d + 6)) p.1 p.2) {sa : Int32} {sk : Int32} {sf : Int32} {sc : Int32} {sz : Int32} {Q : Option Value → sW → Prop} (h : w_140_0 (fun k => Tt (d + 6) wcL (wk_140a 3 k) (wk_140a 3 k)) 3 sa sk sf sc sz Q) : Tt (d + 7) wcL (((84, 5), 3, [(0, 9, 39), (0, 10, 3)]) : wW) (((84, 5), 3, [(75, 0, 3), (75, 1, 21), (75, 2, 25)]) : wW) 140 [.ref 0] (sa, sk, sf, sc, sz) Q := tt_of (E := xE_140) (L := xL_11) (ml := 2) (ret := some .int) rfl rfl rfl (k_140_0_3a rfl hc h)
set_option maxRecDepth 20000 in
theorem k_140_0_39c {d d0 : Nat} (hd : d = d0 + 6) (hc : ∀ p ∈ s_w140, CTR (yex d) p.1 p.2)  {sa : Int32} {sk : Int32} {sf : Int32} {sc : Int32} {sz : Int32} {Q : Option Value → sW → Prop}  (h : w_140_0 (fun k => Tt d wcL (wk_140c 39 k) (wk_140c 39 k)) 39  sa sk sf sc sz Q) : Rn d wcL (((84, 5), 39, [(0, 9, 3), (0, 10, 39)]) : wW) (((84, 5), 39, [(75, 0, 39), (75, 1, 57), (75, 2, 61)]) : wW) xL_11 2 (some .int) xE_140 (xE_140.drop 0) [.ref 0, .null, .null] [] (sa, sk, sf, sc, sz) Q := by
  unfold w_140_0 at h
  refine n_ld rfl rfl rfl ?_
  refine n_get (v := .ref 39) rfl (hv_C (a := 0) (n := 1) rfl rfl rfl) ?_
  refine n_st [.ref 0, .ref 39, .null] rfl rfl rfl ?_
  refine n_ld rfl rfl rfl ?_
  refine n_ld rfl rfl rfl ?_
  refine n_get (v := .ref 1) rfl (hv_R (a := 0) rfl rfl) ?_
  refine n_tt [.ref 39, .ref 1] [] rfl rfl rfl rfl (Tt.imp h (fun v6 sq h => ?_))
  obtain ⟨sa1, sk2, sf3, sc4, sz5⟩ := sq
  obtain ⟨rfl, h⟩ := h
  change Rn _ _ _ _ _ _ _ _ _ _ [] _ _
  refine n_ld rfl rfl rfl ?_
  refine n_get (v := .ref 1) rfl (hv_R (a := 0) rfl rfl) ?_
  refine n_tt [.ref 1] [] rfl rfl rfl rfl (Tt.imp h (fun v12 sq h => ?_))
  obtain ⟨sa7, sk8, sf9, sc10, sz11⟩ := sq
  obtain ⟨rfl, h⟩ := h
  change Rn _ _ _ _ _ _ _ _ _ _ [] _ _
  refine n_ld rfl rfl rfl ?_
  refine n_get (v := .ref 75) rfl (hv_R (a := 0) rfl rfl) ?_
  refine n_ld rfl rfl rfl ?_
  refine n_c [.int 18, .ref 39, .ref 75] (xo_push (.int 18)) rfl rfl ?_
  refine n_tt [.ref 75, .ref 39, .int 18] [] (w1 := (((84, 5), 39, [(75, 0, 39), (75, 1, 57), (75, 2, 61), (0, 9, 3), (0, 10, 39)]) : wW)) rfl rfl rfl rfl (Tt.imp (u_81 hd (P := 39) rfl rfl rfl) (fun v1 s1 hq => ?_))
  obtain ⟨rfl, rfl⟩ := hq
  change Rn _ _ _ _ _ _ _ _ _ _ [] _ _
  refine n_ld rfl rfl rfl ?_
  refine n_get (v := .ref 82) rfl (hv_R (a := 0) rfl rfl) ?_
  refine n_ld rfl rfl rfl ?_
  refine n_ctr [.ref 82, .ref 39] [] rfl rfl rfl (hc (61, q_61) (List.mem_of_getElem? (i := 0) rfl)) ⟨⟨_, rfl, cmem_ok rfl⟩, ⟨_, rfl, cmem_ok rfl⟩, trivial⟩ rfl rfl (fun vq sq hv hk => ?_)
  obtain ⟨sa13, sk14, sf15, sc16, sz17⟩ := sq
  obtain ⟨k1, k2, k3, k4, k5, k6, k7⟩ := hk
  obtain rfl : sa7 = sa13 := (k1 (wmem_no rfl)).symm
  obtain rfl : sk8 = sk14 := (k2).symm
  replace h := h sf15 (k4 (wmem_no rfl))
  obtain rfl : sc10 = sc16 := (k5 (wmem_no rfl)).symm
  obtain rfl : sz11 = sz17 := (k6 (wmem_no rfl)).symm
  cases (show vq = none from hv)
  change Rn _ _ _ _ _ _ _ _ _ _ [] _ _
  refine n_ld rfl rfl rfl ?_
  refine n_get (v := .ref 83) rfl (hv_R (a := 0) rfl rfl) ?_
  refine n_ld rfl rfl rfl ?_
  refine n_ctr [.ref 83, .ref 39] [] rfl rfl rfl (hc (122, q_122) (List.mem_of_getElem? (i := 1) rfl)) ⟨⟨_, rfl, cmem_ok rfl⟩, ⟨_, rfl, cmem_ok rfl⟩, trivial⟩ rfl rfl (fun vq sq hv hk => ?_)
  obtain ⟨sa18, sk19, sf20, sc21, sz22⟩ := sq
  obtain ⟨k1, k2, k3, k4, k5, k6, k7⟩ := hk
  obtain rfl : sa7 = sa18 := (k1 (wmem_no rfl)).symm
  obtain rfl : sk8 = sk19 := (k2).symm
  replace h := h sf20 (k4 (wmem_no rfl))
  obtain rfl : sc10 = sc21 := (k5 (wmem_no rfl)).symm
  obtain rfl : sz11 = sz22 := (k6 (wmem_no rfl)).symm
  cases (show vq = none from hv)
  change Rn _ _ _ _ _ _ _ _ _ _ [] _ _
  refine n_ld rfl rfl rfl ?_
  refine n_get (v := .ref 83) rfl (hv_R (a := 0) rfl rfl) ?_
  refine n_ld rfl rfl rfl ?_
  refine n_tt [.ref 83, .ref 39] [] rfl rfl rfl rfl (Tt.imp h (fun v28 sq h => ?_))
  obtain ⟨sa23, sk24, sf25, sc26, sz27⟩ := sq
  obtain ⟨rfl, h⟩ := h
  change Rn _ _ _ _ _ _ _ _ _ _ [] _ _
  refine n_ld rfl rfl rfl ?_
  refine n_get (v := .ref 83) rfl (hv_R (a := 0) rfl rfl) ?_
  refine n_ld rfl rfl rfl ?_
  refine n_ctr [.ref 83, .ref 39] [] rfl rfl rfl (hc (134, q_134) (List.mem_of_getElem? (i := 2) rfl)) ⟨⟨_, rfl, cmem_ok rfl⟩, ⟨_, rfl, cmem_ok rfl⟩, trivial⟩ rfl rfl (fun vq sq hv hk => ?_)
  obtain ⟨sa29, sk30, sf31, sc32, sz33⟩ := sq
  obtain ⟨k1, k2, k3, k4, k5, k6, k7⟩ := hk
  obtain rfl : sa23 = sa29 := (k1 (wmem_no rfl)).symm
  obtain rfl : sk24 = sk30 := (k2).symm
  replace h := h sf31 (k4 (wmem_no rfl))
  obtain rfl : sc26 = sc32 := (k5 (wmem_no rfl)).symm
  obtain rfl : sz27 = sz33 := (k6 (wmem_no rfl)).symm
  cases (show vq = none from hv)
  change Rn _ _ _ _ _ _ _ _ _ _ [] _ _
  refine n_ld rfl rfl rfl ?_
  refine n_get (v := .ref 83) rfl (hv_R (a := 0) rfl rfl) ?_
  refine n_ld rfl rfl rfl ?_
  refine n_ctr [.ref 83, .ref 39] [] rfl rfl rfl (hc (136, q_136) (List.mem_of_getElem? (i := 3) rfl)) ⟨⟨_, rfl, cmem_ok rfl⟩, ⟨_, rfl, cmem_ok rfl⟩, trivial⟩ rfl rfl (fun vq sq hv hk => ?_)
  obtain ⟨sa34, sk35, sf36, sc37, sz38⟩ := sq
  obtain ⟨k1, k2, k3, k4, k5, k6, k7⟩ := hk
  obtain rfl : sa23 = sa34 := (k1 (wmem_no rfl)).symm
  obtain rfl : sk24 = sk35 := (k2).symm
  replace h := h sf36 (k4 (wmem_no rfl))
  obtain rfl : sc26 = sc37 := (k5 (wmem_no rfl)).symm
  obtain rfl : sz27 = sz38 := (k6 (wmem_no rfl)).symm
  cases (show vq = none from hv)
  change Rn _ _ _ _ _ _ _ _ _ _ [] _ _
  refine n_ld rfl rfl rfl ?_
  refine n_get (v := .ref 84) rfl (hv_R (a := 0) rfl rfl) ?_
  refine n_ld rfl rfl rfl ?_
  refine n_tt [.ref 84, .ref 39] [] rfl rfl rfl rfl (Tt.imp h (fun v44 sq h => ?_))
  obtain ⟨sa39, sk40, sf41, sc42, sz43⟩ := sq
  obtain ⟨rfl, h⟩ := h
  change Rn _ _ _ _ _ _ _ _ _ _ [] _ _
  refine n_ld rfl rfl rfl ?_
  refine n_get (v := .int sf41) rfl (hv_f (a := 39) rfl rfl (fun _ _ hw => hw.1.2.2.1)) ?_
  refine n_brP rfl rfl ⟨fun hcn => ?_, fun hcn => ?_⟩
  · replace h := h.1 ((i_eq (x := sf41) (y := 0) rfl (show (0 : Int32).toInt = 0 by decide)).mp hcn)
    refine n_ld rfl rfl rfl ?_
    refine n_ld rfl rfl rfl ?_
    refine n_get (v := .ref 3) rfl (hv_C (a := 0) (n := 3) rfl rfl rfl) ?_
    refine n_wk (c := [(75, 0, 39), (75, 1, 57), (75, 2, 61), (0, 9, 3)]) rfl ?_
    refine n_put (a := 0) (w1 := (((84, 5), 39, [(0, 10, 3), (75, 0, 39), (75, 1, 57), (75, 2, 61), (0, 9, 3)]) : wW)) (s1 := (sa39, sk40, sf41, sc42, sz43)) rfl rfl rfl rfl ⟨_, rfl, cmem_ok rfl⟩ rfl rfl rfl (Or.inr (Or.inl (by decide +kernel))) (ws_cf (w := (((84, 5), 39, [(75, 0, 39), (75, 1, 57), (75, 2, 61), (0, 9, 3)]) : wW)) (s := (sa39, sk40, sf41, sc42, sz43)) (a := 0) (k := 10) (b := 3) rfl) ?_
    refine n_ld rfl rfl rfl ?_
    refine n_ld rfl rfl rfl ?_
    refine n_wk (c := [(0, 10, 3), (75, 0, 39), (75, 1, 57), (75, 2, 61)]) rfl ?_
    refine n_put (a := 0) (w1 := (((84, 5), 39, [(0, 9, 39), (0, 10, 3), (75, 0, 39), (75, 1, 57), (75, 2, 61)]) : wW)) (s1 := (sa39, sk40, sf41, sc42, sz43)) rfl rfl rfl rfl ⟨_, rfl, cmem_ok rfl⟩ rfl rfl rfl (Or.inr (Or.inl (by decide +kernel))) (ws_cf (w := (((84, 5), 39, [(0, 10, 3), (75, 0, 39), (75, 1, 57), (75, 2, 61)]) : wW)) (s := (sa39, sk40, sf41, sc42, sz43)) (a := 0) (k := 9) (b := 39) rfl) ?_
    refine n_ld rfl rfl rfl ?_
    refine n_c [.int 1, .ref 0] (xo_push (.int 1)) rfl rfl ?_
    refine n_put (a := 0) (w1 := (((84, 5), 39, [(0, 9, 39), (0, 10, 3), (75, 0, 39), (75, 1, 57), (75, 2, 61)]) : wW)) (s1 := (sa39, sk40, sf41, sc42, sz43)) rfl rfl rfl rfl ⟨_, rfl, by decide, by decide⟩ rfl rfl rfl (Or.inr (Or.inl (by decide +kernel))) (ws_no (w := (((84, 5), 39, [(0, 9, 39), (0, 10, 3), (75, 0, 39), (75, 1, 57), (75, 2, 61)]) : wW)) (s := (sa39, sk40, sf41, sc42, sz43)) (a := 0) (k := 11) rfl) ?_
    refine n_ld rfl rfl rfl ?_
    refine n_get (v := .ref 105) rfl (hv_R (a := 0) rfl rfl) ?_
    refine n_ctr [.ref 105] [] rfl rfl rfl (hc (17, q_17) (List.mem_of_getElem? (i := 4) rfl)) ⟨⟨_, rfl, cmem_ok rfl⟩, trivial⟩ rfl rfl (fun vq sq hv hk => ?_)
    obtain ⟨sa45, sk46, sf47, sc48, sz49⟩ := sq
    obtain ⟨k1, k2, k3, k4, k5, k6, k7⟩ := hk
    obtain rfl : sa39 = sa45 := (k1 (wmem_no rfl)).symm
    obtain rfl : sk40 = sk46 := (k2).symm
    obtain rfl : sf41 = sf47 := (k3 (wmem_no rfl)).symm
    obtain rfl : sc42 = sc48 := (k5 (wmem_no rfl)).symm
    obtain rfl : sz43 = sz49 := (k6 (wmem_no rfl)).symm
    cases (show vq = none from hv)
    change Rn _ _ _ _ _ _ _ _ _ _ [] _ _
    refine n_ld rfl rfl rfl ?_
    refine n_get (v := .ref 197) rfl (hv_R (a := 0) rfl rfl) ?_
    refine n_ctr [.ref 197] [] rfl rfl rfl (hc (94, q_94) (List.mem_of_getElem? (i := 5) rfl)) ⟨⟨_, rfl, cmem_ok rfl⟩, trivial⟩ rfl rfl (fun vq sq hv hk => ?_)
    obtain ⟨sa50, sk51, sf52, sc53, sz54⟩ := sq
    obtain ⟨k1, k2, k3, k4, k5, k6, k7⟩ := hk
    obtain rfl : sa39 = sa50 := (k1 (wmem_no rfl)).symm
    obtain rfl : sk40 = sk51 := (k2).symm
    obtain rfl : sf41 = sf52 := (k3 (wmem_no rfl)).symm
    obtain rfl : sc42 = sc53 := (k5 (wmem_no rfl)).symm
    obtain rfl : sz43 = sz54 := (k6 (wmem_no rfl)).symm
    cases (show vq = none from hv)
    change Rn _ _ _ _ _ _ _ _ _ _ [] _ _
    refine n_c [.int 0] (xo_push (.int 0)) rfl rfl ?_
    refine n_wk (c := [(75, 0, 39), (75, 1, 57), (75, 2, 61)]) rfl ?_
    exact n_retI rfl h
  · replace h := h.2 (fun q => hcn ((i_eq (x := sf41) (y := 0) rfl (show (0 : Int32).toInt = 0 by decide)).mpr q))
    refine n_ld rfl rfl rfl ?_
    refine n_get (v := .int sf41) rfl (hv_f (a := 39) rfl rfl (fun _ _ hw => hw.1.2.2.1)) ?_
    refine n_wk (c := [(75, 0, 39), (75, 1, 57), (75, 2, 61)]) rfl ?_
    exact n_retI rfl h
theorem t_140_39c {d : Nat} (hc : ∀ p ∈ s_w140, CTR (yex (d + 6)) p.1 p.2) {sa : Int32} {sk : Int32} {sf : Int32} {sc : Int32} {sz : Int32} {Q : Option Value → sW → Prop} (h : w_140_0 (fun k => Tt (d + 6) wcL (wk_140c 39 k) (wk_140c 39 k)) 39 sa sk sf sc sz Q) : Tt (d + 7) wcL (((84, 5), 39, [(0, 9, 3), (0, 10, 39)]) : wW) (((84, 5), 39, [(75, 0, 39), (75, 1, 57), (75, 2, 61)]) : wW) 140 [.ref 0] (sa, sk, sf, sc, sz) Q := tt_of (E := xE_140) (L := xL_11) (ml := 2) (ret := some .int) rfl rfl rfl (k_140_0_39c rfl hc h)
set_option maxRecDepth 20000 in
theorem k_140_0_3b {d d0 : Nat} (hd : d = d0 + 6) (hc : ∀ p ∈ s_w140, CTR (yex d) p.1 p.2)  {sa : Int32} {sk : Int32} {sf : Int32} {sc : Int32} {sz : Int32} {Q : Option Value → sW → Prop}  (h : w_140_0 (fun k => Tt d wcL (wk_140b 3 k) (wk_140b 3 k)) 3  sa sk sf sc sz Q) : Rn d wcL (((84, 5), 3, [(0, 9, 3), (0, 10, 3)]) : wW) (((84, 5), 3, [(75, 0, 3), (75, 1, 21), (75, 2, 25), (0, 9, 3), (0, 10, 3)]) : wW) xL_11 2 (some .int) xE_140 (xE_140.drop 0) [.ref 0, .null, .null] [] (sa, sk, sf, sc, sz) Q := by
  unfold w_140_0 at h
  refine n_ld rfl rfl rfl ?_
  refine n_get (v := .ref 3) rfl (hv_C (a := 0) (n := 1) rfl rfl rfl) ?_
  refine n_st [.ref 0, .ref 3, .null] rfl rfl rfl ?_
  refine n_ld rfl rfl rfl ?_
  refine n_ld rfl rfl rfl ?_
  refine n_get (v := .ref 1) rfl (hv_R (a := 0) rfl rfl) ?_
  refine n_tt [.ref 3, .ref 1] [] rfl rfl rfl rfl (Tt.imp h (fun v6 sq h => ?_))
  obtain ⟨sa1, sk2, sf3, sc4, sz5⟩ := sq
  obtain ⟨rfl, h⟩ := h
  change Rn _ _ _ _ _ _ _ _ _ _ [] _ _
  refine n_ld rfl rfl rfl ?_
  refine n_get (v := .ref 1) rfl (hv_R (a := 0) rfl rfl) ?_
  refine n_tt [.ref 1] [] rfl rfl rfl rfl (Tt.imp h (fun v12 sq h => ?_))
  obtain ⟨sa7, sk8, sf9, sc10, sz11⟩ := sq
  obtain ⟨rfl, h⟩ := h
  change Rn _ _ _ _ _ _ _ _ _ _ [] _ _
  refine n_ld rfl rfl rfl ?_
  refine n_get (v := .ref 75) rfl (hv_R (a := 0) rfl rfl) ?_
  refine n_ld rfl rfl rfl ?_
  refine n_c [.int 18, .ref 3, .ref 75] (xo_push (.int 18)) rfl rfl ?_
  refine n_tt [.ref 75, .ref 3, .int 18] [] (w1 := (((84, 5), 3, [(75, 0, 3), (75, 1, 21), (75, 2, 25), (0, 9, 3), (0, 10, 3)]) : wW)) rfl rfl rfl rfl (Tt.imp (u_81 hd (P := 3) rfl rfl rfl) (fun v1 s1 hq => ?_))
  obtain ⟨rfl, rfl⟩ := hq
  change Rn _ _ _ _ _ _ _ _ _ _ [] _ _
  refine n_ld rfl rfl rfl ?_
  refine n_get (v := .ref 82) rfl (hv_R (a := 0) rfl rfl) ?_
  refine n_ld rfl rfl rfl ?_
  refine n_ctr [.ref 82, .ref 3] [] rfl rfl rfl (hc (61, q_61) (List.mem_of_getElem? (i := 0) rfl)) ⟨⟨_, rfl, cmem_ok rfl⟩, ⟨_, rfl, cmem_ok rfl⟩, trivial⟩ rfl rfl (fun vq sq hv hk => ?_)
  obtain ⟨sa13, sk14, sf15, sc16, sz17⟩ := sq
  obtain ⟨k1, k2, k3, k4, k5, k6, k7⟩ := hk
  obtain rfl : sa7 = sa13 := (k1 (wmem_no rfl)).symm
  obtain rfl : sk8 = sk14 := (k2).symm
  replace h := h sf15 (k4 (wmem_no rfl))
  obtain rfl : sc10 = sc16 := (k5 (wmem_no rfl)).symm
  obtain rfl : sz11 = sz17 := (k6 (wmem_no rfl)).symm
  cases (show vq = none from hv)
  change Rn _ _ _ _ _ _ _ _ _ _ [] _ _
  refine n_ld rfl rfl rfl ?_
  refine n_get (v := .ref 83) rfl (hv_R (a := 0) rfl rfl) ?_
  refine n_ld rfl rfl rfl ?_
  refine n_ctr [.ref 83, .ref 3] [] rfl rfl rfl (hc (122, q_122) (List.mem_of_getElem? (i := 1) rfl)) ⟨⟨_, rfl, cmem_ok rfl⟩, ⟨_, rfl, cmem_ok rfl⟩, trivial⟩ rfl rfl (fun vq sq hv hk => ?_)
  obtain ⟨sa18, sk19, sf20, sc21, sz22⟩ := sq
  obtain ⟨k1, k2, k3, k4, k5, k6, k7⟩ := hk
  obtain rfl : sa7 = sa18 := (k1 (wmem_no rfl)).symm
  obtain rfl : sk8 = sk19 := (k2).symm
  replace h := h sf20 (k4 (wmem_no rfl))
  obtain rfl : sc10 = sc21 := (k5 (wmem_no rfl)).symm
  obtain rfl : sz11 = sz22 := (k6 (wmem_no rfl)).symm
  cases (show vq = none from hv)
  change Rn _ _ _ _ _ _ _ _ _ _ [] _ _
  refine n_ld rfl rfl rfl ?_
  refine n_get (v := .ref 83) rfl (hv_R (a := 0) rfl rfl) ?_
  refine n_ld rfl rfl rfl ?_
  refine n_tt [.ref 83, .ref 3] [] rfl rfl rfl rfl (Tt.imp h (fun v28 sq h => ?_))
  obtain ⟨sa23, sk24, sf25, sc26, sz27⟩ := sq
  obtain ⟨rfl, h⟩ := h
  change Rn _ _ _ _ _ _ _ _ _ _ [] _ _
  refine n_ld rfl rfl rfl ?_
  refine n_get (v := .ref 83) rfl (hv_R (a := 0) rfl rfl) ?_
  refine n_ld rfl rfl rfl ?_
  refine n_ctr [.ref 83, .ref 3] [] rfl rfl rfl (hc (134, q_134) (List.mem_of_getElem? (i := 2) rfl)) ⟨⟨_, rfl, cmem_ok rfl⟩, ⟨_, rfl, cmem_ok rfl⟩, trivial⟩ rfl rfl (fun vq sq hv hk => ?_)
  obtain ⟨sa29, sk30, sf31, sc32, sz33⟩ := sq
  obtain ⟨k1, k2, k3, k4, k5, k6, k7⟩ := hk
  obtain rfl : sa23 = sa29 := (k1 (wmem_no rfl)).symm
  obtain rfl : sk24 = sk30 := (k2).symm
  replace h := h sf31 (k4 (wmem_no rfl))
  obtain rfl : sc26 = sc32 := (k5 (wmem_no rfl)).symm
  obtain rfl : sz27 = sz33 := (k6 (wmem_no rfl)).symm
  cases (show vq = none from hv)
  change Rn _ _ _ _ _ _ _ _ _ _ [] _ _
  refine n_ld rfl rfl rfl ?_
  refine n_get (v := .ref 83) rfl (hv_R (a := 0) rfl rfl) ?_
  refine n_ld rfl rfl rfl ?_
  refine n_ctr [.ref 83, .ref 3] [] rfl rfl rfl (hc (136, q_136) (List.mem_of_getElem? (i := 3) rfl)) ⟨⟨_, rfl, cmem_ok rfl⟩, ⟨_, rfl, cmem_ok rfl⟩, trivial⟩ rfl rfl (fun vq sq hv hk => ?_)
  obtain ⟨sa34, sk35, sf36, sc37, sz38⟩ := sq
  obtain ⟨k1, k2, k3, k4, k5, k6, k7⟩ := hk
  obtain rfl : sa23 = sa34 := (k1 (wmem_no rfl)).symm
  obtain rfl : sk24 = sk35 := (k2).symm
  replace h := h sf36 (k4 (wmem_no rfl))
  obtain rfl : sc26 = sc37 := (k5 (wmem_no rfl)).symm
  obtain rfl : sz27 = sz38 := (k6 (wmem_no rfl)).symm
  cases (show vq = none from hv)
  change Rn _ _ _ _ _ _ _ _ _ _ [] _ _
  refine n_ld rfl rfl rfl ?_
  refine n_get (v := .ref 84) rfl (hv_R (a := 0) rfl rfl) ?_
  refine n_ld rfl rfl rfl ?_
  refine n_tt [.ref 84, .ref 3] [] rfl rfl rfl rfl (Tt.imp h (fun v44 sq h => ?_))
  obtain ⟨sa39, sk40, sf41, sc42, sz43⟩ := sq
  obtain ⟨rfl, h⟩ := h
  change Rn _ _ _ _ _ _ _ _ _ _ [] _ _
  refine n_ld rfl rfl rfl ?_
  refine n_get (v := .int sf41) rfl (hv_f (a := 3) rfl rfl (fun _ _ hw => hw.1.2.2.1)) ?_
  refine n_brP rfl rfl ⟨fun hcn => ?_, fun hcn => ?_⟩
  · replace h := h.1 ((i_eq (x := sf41) (y := 0) rfl (show (0 : Int32).toInt = 0 by decide)).mp hcn)
    refine n_ld rfl rfl rfl ?_
    refine n_ld rfl rfl rfl ?_
    refine n_get (v := .ref 3) rfl (hv_C (a := 0) (n := 3) rfl rfl rfl) ?_
    refine n_wk (c := [(75, 0, 3), (75, 1, 21), (75, 2, 25), (0, 9, 3)]) rfl ?_
    refine n_put (a := 0) (w1 := (((84, 5), 3, [(0, 10, 3), (75, 0, 3), (75, 1, 21), (75, 2, 25), (0, 9, 3)]) : wW)) (s1 := (sa39, sk40, sf41, sc42, sz43)) rfl rfl rfl rfl ⟨_, rfl, cmem_ok rfl⟩ rfl rfl rfl (Or.inr (Or.inl (by decide +kernel))) (ws_cf (w := (((84, 5), 3, [(75, 0, 3), (75, 1, 21), (75, 2, 25), (0, 9, 3)]) : wW)) (s := (sa39, sk40, sf41, sc42, sz43)) (a := 0) (k := 10) (b := 3) rfl) ?_
    refine n_ld rfl rfl rfl ?_
    refine n_ld rfl rfl rfl ?_
    refine n_wk (c := [(0, 10, 3), (75, 0, 3), (75, 1, 21), (75, 2, 25)]) rfl ?_
    refine n_put (a := 0) (w1 := (((84, 5), 3, [(0, 9, 3), (0, 10, 3), (75, 0, 3), (75, 1, 21), (75, 2, 25)]) : wW)) (s1 := (sa39, sk40, sf41, sc42, sz43)) rfl rfl rfl rfl ⟨_, rfl, cmem_ok rfl⟩ rfl rfl rfl (Or.inr (Or.inl (by decide +kernel))) (ws_cf (w := (((84, 5), 3, [(0, 10, 3), (75, 0, 3), (75, 1, 21), (75, 2, 25)]) : wW)) (s := (sa39, sk40, sf41, sc42, sz43)) (a := 0) (k := 9) (b := 3) rfl) ?_
    refine n_ld rfl rfl rfl ?_
    refine n_c [.int 1, .ref 0] (xo_push (.int 1)) rfl rfl ?_
    refine n_put (a := 0) (w1 := (((84, 5), 3, [(0, 9, 3), (0, 10, 3), (75, 0, 3), (75, 1, 21), (75, 2, 25)]) : wW)) (s1 := (sa39, sk40, sf41, sc42, sz43)) rfl rfl rfl rfl ⟨_, rfl, by decide, by decide⟩ rfl rfl rfl (Or.inr (Or.inl (by decide +kernel))) (ws_no (w := (((84, 5), 3, [(0, 9, 3), (0, 10, 3), (75, 0, 3), (75, 1, 21), (75, 2, 25)]) : wW)) (s := (sa39, sk40, sf41, sc42, sz43)) (a := 0) (k := 11) rfl) ?_
    refine n_ld rfl rfl rfl ?_
    refine n_get (v := .ref 105) rfl (hv_R (a := 0) rfl rfl) ?_
    refine n_ctr [.ref 105] [] rfl rfl rfl (hc (17, q_17) (List.mem_of_getElem? (i := 4) rfl)) ⟨⟨_, rfl, cmem_ok rfl⟩, trivial⟩ rfl rfl (fun vq sq hv hk => ?_)
    obtain ⟨sa45, sk46, sf47, sc48, sz49⟩ := sq
    obtain ⟨k1, k2, k3, k4, k5, k6, k7⟩ := hk
    obtain rfl : sa39 = sa45 := (k1 (wmem_no rfl)).symm
    obtain rfl : sk40 = sk46 := (k2).symm
    obtain rfl : sf41 = sf47 := (k3 (wmem_no rfl)).symm
    obtain rfl : sc42 = sc48 := (k5 (wmem_no rfl)).symm
    obtain rfl : sz43 = sz49 := (k6 (wmem_no rfl)).symm
    cases (show vq = none from hv)
    change Rn _ _ _ _ _ _ _ _ _ _ [] _ _
    refine n_ld rfl rfl rfl ?_
    refine n_get (v := .ref 197) rfl (hv_R (a := 0) rfl rfl) ?_
    refine n_ctr [.ref 197] [] rfl rfl rfl (hc (94, q_94) (List.mem_of_getElem? (i := 5) rfl)) ⟨⟨_, rfl, cmem_ok rfl⟩, trivial⟩ rfl rfl (fun vq sq hv hk => ?_)
    obtain ⟨sa50, sk51, sf52, sc53, sz54⟩ := sq
    obtain ⟨k1, k2, k3, k4, k5, k6, k7⟩ := hk
    obtain rfl : sa39 = sa50 := (k1 (wmem_no rfl)).symm
    obtain rfl : sk40 = sk51 := (k2).symm
    obtain rfl : sf41 = sf52 := (k3 (wmem_no rfl)).symm
    obtain rfl : sc42 = sc53 := (k5 (wmem_no rfl)).symm
    obtain rfl : sz43 = sz54 := (k6 (wmem_no rfl)).symm
    cases (show vq = none from hv)
    change Rn _ _ _ _ _ _ _ _ _ _ [] _ _
    refine n_c [.int 0] (xo_push (.int 0)) rfl rfl ?_
    refine n_wk (c := [(75, 0, 3), (75, 1, 21), (75, 2, 25), (0, 9, 3), (0, 10, 3)]) rfl ?_
    exact n_retI rfl h
  · replace h := h.2 (fun q => hcn ((i_eq (x := sf41) (y := 0) rfl (show (0 : Int32).toInt = 0 by decide)).mpr q))
    refine n_ld rfl rfl rfl ?_
    refine n_get (v := .int sf41) rfl (hv_f (a := 3) rfl rfl (fun _ _ hw => hw.1.2.2.1)) ?_
    exact n_retI rfl h
theorem t_140_3b {d : Nat} (hc : ∀ p ∈ s_w140, CTR (yex (d + 6)) p.1 p.2) {sa : Int32} {sk : Int32} {sf : Int32} {sc : Int32} {sz : Int32} {Q : Option Value → sW → Prop} (h : w_140_0 (fun k => Tt (d + 6) wcL (wk_140b 3 k) (wk_140b 3 k)) 3 sa sk sf sc sz Q) : Tt (d + 7) wcL (((84, 5), 3, [(0, 9, 3), (0, 10, 3)]) : wW) (((84, 5), 3, [(75, 0, 3), (75, 1, 21), (75, 2, 25), (0, 9, 3), (0, 10, 3)]) : wW) 140 [.ref 0] (sa, sk, sf, sc, sz) Q := tt_of (E := xE_140) (L := xL_11) (ml := 2) (ret := some .int) rfl rfl rfl (k_140_0_3b rfl hc h)
set_option maxRecDepth 20000 in
theorem k_140_0_39b {d d0 : Nat} (hd : d = d0 + 6) (hc : ∀ p ∈ s_w140, CTR (yex d) p.1 p.2)  {sa : Int32} {sk : Int32} {sf : Int32} {sc : Int32} {sz : Int32} {Q : Option Value → sW → Prop}  (h : w_140_0 (fun k => Tt d wcL (wk_140b 39 k) (wk_140b 39 k)) 39  sa sk sf sc sz Q) : Rn d wcL (((84, 5), 39, [(0, 9, 39), (0, 10, 39)]) : wW) (((84, 5), 39, [(75, 0, 39), (75, 1, 57), (75, 2, 61), (0, 9, 39), (0, 10, 39)]) : wW) xL_11 2 (some .int) xE_140 (xE_140.drop 0) [.ref 0, .null, .null] [] (sa, sk, sf, sc, sz) Q := by
  unfold w_140_0 at h
  refine n_ld rfl rfl rfl ?_
  refine n_get (v := .ref 39) rfl (hv_C (a := 0) (n := 1) rfl rfl rfl) ?_
  refine n_st [.ref 0, .ref 39, .null] rfl rfl rfl ?_
  refine n_ld rfl rfl rfl ?_
  refine n_ld rfl rfl rfl ?_
  refine n_get (v := .ref 1) rfl (hv_R (a := 0) rfl rfl) ?_
  refine n_tt [.ref 39, .ref 1] [] rfl rfl rfl rfl (Tt.imp h (fun v6 sq h => ?_))
  obtain ⟨sa1, sk2, sf3, sc4, sz5⟩ := sq
  obtain ⟨rfl, h⟩ := h
  change Rn _ _ _ _ _ _ _ _ _ _ [] _ _
  refine n_ld rfl rfl rfl ?_
  refine n_get (v := .ref 1) rfl (hv_R (a := 0) rfl rfl) ?_
  refine n_tt [.ref 1] [] rfl rfl rfl rfl (Tt.imp h (fun v12 sq h => ?_))
  obtain ⟨sa7, sk8, sf9, sc10, sz11⟩ := sq
  obtain ⟨rfl, h⟩ := h
  change Rn _ _ _ _ _ _ _ _ _ _ [] _ _
  refine n_ld rfl rfl rfl ?_
  refine n_get (v := .ref 75) rfl (hv_R (a := 0) rfl rfl) ?_
  refine n_ld rfl rfl rfl ?_
  refine n_c [.int 18, .ref 39, .ref 75] (xo_push (.int 18)) rfl rfl ?_
  refine n_tt [.ref 75, .ref 39, .int 18] [] (w1 := (((84, 5), 39, [(75, 0, 39), (75, 1, 57), (75, 2, 61), (0, 9, 39), (0, 10, 39)]) : wW)) rfl rfl rfl rfl (Tt.imp (u_81 hd (P := 39) rfl rfl rfl) (fun v1 s1 hq => ?_))
  obtain ⟨rfl, rfl⟩ := hq
  change Rn _ _ _ _ _ _ _ _ _ _ [] _ _
  refine n_ld rfl rfl rfl ?_
  refine n_get (v := .ref 82) rfl (hv_R (a := 0) rfl rfl) ?_
  refine n_ld rfl rfl rfl ?_
  refine n_ctr [.ref 82, .ref 39] [] rfl rfl rfl (hc (61, q_61) (List.mem_of_getElem? (i := 0) rfl)) ⟨⟨_, rfl, cmem_ok rfl⟩, ⟨_, rfl, cmem_ok rfl⟩, trivial⟩ rfl rfl (fun vq sq hv hk => ?_)
  obtain ⟨sa13, sk14, sf15, sc16, sz17⟩ := sq
  obtain ⟨k1, k2, k3, k4, k5, k6, k7⟩ := hk
  obtain rfl : sa7 = sa13 := (k1 (wmem_no rfl)).symm
  obtain rfl : sk8 = sk14 := (k2).symm
  replace h := h sf15 (k4 (wmem_no rfl))
  obtain rfl : sc10 = sc16 := (k5 (wmem_no rfl)).symm
  obtain rfl : sz11 = sz17 := (k6 (wmem_no rfl)).symm
  cases (show vq = none from hv)
  change Rn _ _ _ _ _ _ _ _ _ _ [] _ _
  refine n_ld rfl rfl rfl ?_
  refine n_get (v := .ref 83) rfl (hv_R (a := 0) rfl rfl) ?_
  refine n_ld rfl rfl rfl ?_
  refine n_ctr [.ref 83, .ref 39] [] rfl rfl rfl (hc (122, q_122) (List.mem_of_getElem? (i := 1) rfl)) ⟨⟨_, rfl, cmem_ok rfl⟩, ⟨_, rfl, cmem_ok rfl⟩, trivial⟩ rfl rfl (fun vq sq hv hk => ?_)
  obtain ⟨sa18, sk19, sf20, sc21, sz22⟩ := sq
  obtain ⟨k1, k2, k3, k4, k5, k6, k7⟩ := hk
  obtain rfl : sa7 = sa18 := (k1 (wmem_no rfl)).symm
  obtain rfl : sk8 = sk19 := (k2).symm
  replace h := h sf20 (k4 (wmem_no rfl))
  obtain rfl : sc10 = sc21 := (k5 (wmem_no rfl)).symm
  obtain rfl : sz11 = sz22 := (k6 (wmem_no rfl)).symm
  cases (show vq = none from hv)
  change Rn _ _ _ _ _ _ _ _ _ _ [] _ _
  refine n_ld rfl rfl rfl ?_
  refine n_get (v := .ref 83) rfl (hv_R (a := 0) rfl rfl) ?_
  refine n_ld rfl rfl rfl ?_
  refine n_tt [.ref 83, .ref 39] [] rfl rfl rfl rfl (Tt.imp h (fun v28 sq h => ?_))
  obtain ⟨sa23, sk24, sf25, sc26, sz27⟩ := sq
  obtain ⟨rfl, h⟩ := h
  change Rn _ _ _ _ _ _ _ _ _ _ [] _ _
  refine n_ld rfl rfl rfl ?_
  refine n_get (v := .ref 83) rfl (hv_R (a := 0) rfl rfl) ?_
  refine n_ld rfl rfl rfl ?_
  refine n_ctr [.ref 83, .ref 39] [] rfl rfl rfl (hc (134, q_134) (List.mem_of_getElem? (i := 2) rfl)) ⟨⟨_, rfl, cmem_ok rfl⟩, ⟨_, rfl, cmem_ok rfl⟩, trivial⟩ rfl rfl (fun vq sq hv hk => ?_)
  obtain ⟨sa29, sk30, sf31, sc32, sz33⟩ := sq
  obtain ⟨k1, k2, k3, k4, k5, k6, k7⟩ := hk
  obtain rfl : sa23 = sa29 := (k1 (wmem_no rfl)).symm
  obtain rfl : sk24 = sk30 := (k2).symm
  replace h := h sf31 (k4 (wmem_no rfl))
  obtain rfl : sc26 = sc32 := (k5 (wmem_no rfl)).symm
  obtain rfl : sz27 = sz33 := (k6 (wmem_no rfl)).symm
  cases (show vq = none from hv)
  change Rn _ _ _ _ _ _ _ _ _ _ [] _ _
  refine n_ld rfl rfl rfl ?_
  refine n_get (v := .ref 83) rfl (hv_R (a := 0) rfl rfl) ?_
  refine n_ld rfl rfl rfl ?_
  refine n_ctr [.ref 83, .ref 39] [] rfl rfl rfl (hc (136, q_136) (List.mem_of_getElem? (i := 3) rfl)) ⟨⟨_, rfl, cmem_ok rfl⟩, ⟨_, rfl, cmem_ok rfl⟩, trivial⟩ rfl rfl (fun vq sq hv hk => ?_)
  obtain ⟨sa34, sk35, sf36, sc37, sz38⟩ := sq
  obtain ⟨k1, k2, k3, k4, k5, k6, k7⟩ := hk
  obtain rfl : sa23 = sa34 := (k1 (wmem_no rfl)).symm
  obtain rfl : sk24 = sk35 := (k2).symm
  replace h := h sf36 (k4 (wmem_no rfl))
  obtain rfl : sc26 = sc37 := (k5 (wmem_no rfl)).symm
  obtain rfl : sz27 = sz38 := (k6 (wmem_no rfl)).symm
  cases (show vq = none from hv)
  change Rn _ _ _ _ _ _ _ _ _ _ [] _ _
  refine n_ld rfl rfl rfl ?_
  refine n_get (v := .ref 84) rfl (hv_R (a := 0) rfl rfl) ?_
  refine n_ld rfl rfl rfl ?_
  refine n_tt [.ref 84, .ref 39] [] rfl rfl rfl rfl (Tt.imp h (fun v44 sq h => ?_))
  obtain ⟨sa39, sk40, sf41, sc42, sz43⟩ := sq
  obtain ⟨rfl, h⟩ := h
  change Rn _ _ _ _ _ _ _ _ _ _ [] _ _
  refine n_ld rfl rfl rfl ?_
  refine n_get (v := .int sf41) rfl (hv_f (a := 39) rfl rfl (fun _ _ hw => hw.1.2.2.1)) ?_
  refine n_brP rfl rfl ⟨fun hcn => ?_, fun hcn => ?_⟩
  · replace h := h.1 ((i_eq (x := sf41) (y := 0) rfl (show (0 : Int32).toInt = 0 by decide)).mp hcn)
    refine n_ld rfl rfl rfl ?_
    refine n_ld rfl rfl rfl ?_
    refine n_get (v := .ref 39) rfl (hv_C (a := 0) (n := 3) rfl rfl rfl) ?_
    refine n_wk (c := [(75, 0, 39), (75, 1, 57), (75, 2, 61), (0, 9, 39)]) rfl ?_
    refine n_put (a := 0) (w1 := (((84, 5), 39, [(0, 10, 39), (75, 0, 39), (75, 1, 57), (75, 2, 61), (0, 9, 39)]) : wW)) (s1 := (sa39, sk40, sf41, sc42, sz43)) rfl rfl rfl rfl ⟨_, rfl, cmem_ok rfl⟩ rfl rfl rfl (Or.inr (Or.inl (by decide +kernel))) (ws_cf (w := (((84, 5), 39, [(75, 0, 39), (75, 1, 57), (75, 2, 61), (0, 9, 39)]) : wW)) (s := (sa39, sk40, sf41, sc42, sz43)) (a := 0) (k := 10) (b := 39) rfl) ?_
    refine n_ld rfl rfl rfl ?_
    refine n_ld rfl rfl rfl ?_
    refine n_wk (c := [(0, 10, 39), (75, 0, 39), (75, 1, 57), (75, 2, 61)]) rfl ?_
    refine n_put (a := 0) (w1 := (((84, 5), 39, [(0, 9, 39), (0, 10, 39), (75, 0, 39), (75, 1, 57), (75, 2, 61)]) : wW)) (s1 := (sa39, sk40, sf41, sc42, sz43)) rfl rfl rfl rfl ⟨_, rfl, cmem_ok rfl⟩ rfl rfl rfl (Or.inr (Or.inl (by decide +kernel))) (ws_cf (w := (((84, 5), 39, [(0, 10, 39), (75, 0, 39), (75, 1, 57), (75, 2, 61)]) : wW)) (s := (sa39, sk40, sf41, sc42, sz43)) (a := 0) (k := 9) (b := 39) rfl) ?_
    refine n_ld rfl rfl rfl ?_
    refine n_c [.int 1, .ref 0] (xo_push (.int 1)) rfl rfl ?_
    refine n_put (a := 0) (w1 := (((84, 5), 39, [(0, 9, 39), (0, 10, 39), (75, 0, 39), (75, 1, 57), (75, 2, 61)]) : wW)) (s1 := (sa39, sk40, sf41, sc42, sz43)) rfl rfl rfl rfl ⟨_, rfl, by decide, by decide⟩ rfl rfl rfl (Or.inr (Or.inl (by decide +kernel))) (ws_no (w := (((84, 5), 39, [(0, 9, 39), (0, 10, 39), (75, 0, 39), (75, 1, 57), (75, 2, 61)]) : wW)) (s := (sa39, sk40, sf41, sc42, sz43)) (a := 0) (k := 11) rfl) ?_
    refine n_ld rfl rfl rfl ?_
    refine n_get (v := .ref 105) rfl (hv_R (a := 0) rfl rfl) ?_
    refine n_ctr [.ref 105] [] rfl rfl rfl (hc (17, q_17) (List.mem_of_getElem? (i := 4) rfl)) ⟨⟨_, rfl, cmem_ok rfl⟩, trivial⟩ rfl rfl (fun vq sq hv hk => ?_)
    obtain ⟨sa45, sk46, sf47, sc48, sz49⟩ := sq
    obtain ⟨k1, k2, k3, k4, k5, k6, k7⟩ := hk
    obtain rfl : sa39 = sa45 := (k1 (wmem_no rfl)).symm
    obtain rfl : sk40 = sk46 := (k2).symm
    obtain rfl : sf41 = sf47 := (k3 (wmem_no rfl)).symm
    obtain rfl : sc42 = sc48 := (k5 (wmem_no rfl)).symm
    obtain rfl : sz43 = sz49 := (k6 (wmem_no rfl)).symm
    cases (show vq = none from hv)
    change Rn _ _ _ _ _ _ _ _ _ _ [] _ _
    refine n_ld rfl rfl rfl ?_
    refine n_get (v := .ref 197) rfl (hv_R (a := 0) rfl rfl) ?_
    refine n_ctr [.ref 197] [] rfl rfl rfl (hc (94, q_94) (List.mem_of_getElem? (i := 5) rfl)) ⟨⟨_, rfl, cmem_ok rfl⟩, trivial⟩ rfl rfl (fun vq sq hv hk => ?_)
    obtain ⟨sa50, sk51, sf52, sc53, sz54⟩ := sq
    obtain ⟨k1, k2, k3, k4, k5, k6, k7⟩ := hk
    obtain rfl : sa39 = sa50 := (k1 (wmem_no rfl)).symm
    obtain rfl : sk40 = sk51 := (k2).symm
    obtain rfl : sf41 = sf52 := (k3 (wmem_no rfl)).symm
    obtain rfl : sc42 = sc53 := (k5 (wmem_no rfl)).symm
    obtain rfl : sz43 = sz54 := (k6 (wmem_no rfl)).symm
    cases (show vq = none from hv)
    change Rn _ _ _ _ _ _ _ _ _ _ [] _ _
    refine n_c [.int 0] (xo_push (.int 0)) rfl rfl ?_
    refine n_wk (c := [(75, 0, 39), (75, 1, 57), (75, 2, 61), (0, 9, 39), (0, 10, 39)]) rfl ?_
    exact n_retI rfl h
  · replace h := h.2 (fun q => hcn ((i_eq (x := sf41) (y := 0) rfl (show (0 : Int32).toInt = 0 by decide)).mpr q))
    refine n_ld rfl rfl rfl ?_
    refine n_get (v := .int sf41) rfl (hv_f (a := 39) rfl rfl (fun _ _ hw => hw.1.2.2.1)) ?_
    exact n_retI rfl h
theorem t_140_39b {d : Nat} (hc : ∀ p ∈ s_w140, CTR (yex (d + 6)) p.1 p.2) {sa : Int32} {sk : Int32} {sf : Int32} {sc : Int32} {sz : Int32} {Q : Option Value → sW → Prop} (h : w_140_0 (fun k => Tt (d + 6) wcL (wk_140b 39 k) (wk_140b 39 k)) 39 sa sk sf sc sz Q) : Tt (d + 7) wcL (((84, 5), 39, [(0, 9, 39), (0, 10, 39)]) : wW) (((84, 5), 39, [(75, 0, 39), (75, 1, 57), (75, 2, 61), (0, 9, 39), (0, 10, 39)]) : wW) 140 [.ref 0] (sa, sk, sf, sc, sz) Q := tt_of (E := xE_140) (L := xL_11) (ml := 2) (ret := some .int) rfl rfl rfl (k_140_0_39b rfl hc h)
/-! FeatherBench.implementing -/
def wk_141 (P : Nat) : Nat → wW
  | _ => (((84, 5), P, [(0, 9, P)]) : wW)
def s_w141 : List (Nat × cSg) := [(88, q_88)]
def w_141_28 (T : Nat → Nat → List Value → sW → (Option Value → sW → Prop) → Prop) (P : Nat)  (a1 : Int32) (a2 : Int32) (t0 : Int32) (sa : Int32) (sk : Int32) (sf : Int32) (sc : Int32) (sz : Int32) (Q : Option Value → sW → Prop) : Prop :=
  Q (some (.int t0)) (sa, sk, sf, sc, sz)
def w_141_0 (T : Nat → Nat → List Value → sW → (Option Value → sW → Prop) → Prop) (P : Nat)  (sa : Int32) (sk : Int32) (sf : Int32) (sc : Int32) (sz : Int32) (Q : Option Value → sW → Prop) : Prop :=
  T 0 152 [.ref 0, .int 2] (sa, sk, sf, sc, sz) (fun v6 (sa1, sk2, sf3, sc4, sz5) => ∃ x7, v6 = some (.int x7) ∧ ((x7.toInt = 0 → ∀ x8 : Int32, ∀ x9 : Int32, ∀ x15 : Int32, 0 ≤ x15.toInt → x15.toInt ≤ 9 → (¬ (x15.toInt = 9) → (¬ (x15.toInt = 0) → w_141_28 T P  x7 x15 0 sa1 sk2 sf3 sc4 sz5 Q) ∧ (x15.toInt = 0 → w_141_28 T P  x7 x15 1 sa1 sk2 sf3 sc4 sz5 Q)) ∧ (x15.toInt = 9 → Q (some (.int (-2))) (sa1, sk2, sf3, sc4, sz5))) ∧ (¬ (x7.toInt = 0) → Q (some (.int x7)) (sa1, sk2, sf3, sc4, sz5))))
set_option maxRecDepth 20000 in
theorem k_141_28_3 {d d0 : Nat} (hd : d = d0 + 4) (hc : ∀ p ∈ s_w141, CTR (yex d) p.1 p.2)  {a1 : Int32} {a2 : Int32} {t0 : Int32} {sa : Int32} {sk : Int32} {sf : Int32} {sc : Int32} {sz : Int32} {Q : Option Value → sW → Prop}  (h : w_141_28 (fun k => Tt d wcL (wk_141 3 k) (wk_141 3 k)) 3  a1 a2 t0 sa sk sf sc sz Q) : Rn d wcL (((84, 5), 3, [(0, 9, 3)]) : wW) (((84, 5), 3, [(0, 9, 3)]) : wW) xL_11 3 (some .int) xE_141 (xE_141.drop 28) [.ref 0, .int a1, .int a2, .null] [.int t0] (sa, sk, sf, sc, sz) Q := by
  unfold w_141_28 at h
  exact n_retI rfl h
set_option maxRecDepth 20000 in
theorem k_141_0_3 {d d0 : Nat} (hd : d = d0 + 4) (hc : ∀ p ∈ s_w141, CTR (yex d) p.1 p.2)  {sa : Int32} {sk : Int32} {sf : Int32} {sc : Int32} {sz : Int32} {Q : Option Value → sW → Prop}  (h : w_141_0 (fun k => Tt d wcL (wk_141 3 k) (wk_141 3 k)) 3  sa sk sf sc sz Q) : Rn d wcL (((84, 5), 3, [(0, 9, 3)]) : wW) (((84, 5), 3, [(0, 9, 3)]) : wW) xL_11 3 (some .int) xE_141 (xE_141.drop 0) [.ref 0, .null, .null, .null] [] (sa, sk, sf, sc, sz) Q := by
  unfold w_141_0 at h
  refine n_ld rfl rfl rfl ?_
  refine n_c [.int 2, .ref 0] (xo_push (.int 2)) rfl rfl ?_
  refine n_tt [.ref 0, .int 2] [] rfl rfl rfl rfl (Tt.imp h (fun v6 sq h => ?_))
  obtain ⟨sa1, sk2, sf3, sc4, sz5⟩ := sq
  obtain ⟨x7, rfl, h⟩ := h
  change Rn _ _ _ _ _ _ _ _ _ _ [.int x7] _ _
  refine n_st [.ref 0, .int x7, .null, .null] rfl rfl rfl ?_
  refine n_ld rfl rfl rfl ?_
  refine n_brP rfl rfl ⟨fun hcn => ?_, fun hcn => ?_⟩
  · replace h := h.1 ((i_eq (x := x7) (y := 0) rfl (show (0 : Int32).toInt = 0 by decide)).mp hcn)
    refine n_ld rfl rfl rfl ?_
    refine n_get (v := .ref 75) rfl (hv_R (a := 0) rfl rfl) ?_
    refine n_ld rfl rfl rfl ?_
    refine n_get (v := .ref 85) rfl (hv_R (a := 0) rfl rfl) ?_
    refine n_getI (a := 85) rfl rfl rfl (fun x8 hl hu => ?_)
    replace h := h x8
    refine n_ld rfl rfl rfl ?_
    refine n_get (v := .ref 85) rfl (hv_R (a := 0) rfl rfl) ?_
    refine n_getI (a := 85) rfl rfl rfl (fun x9 hl hu => ?_)
    replace h := h x9
    refine n_ctr [.ref 75, .int x8, .int x9] [] rfl rfl rfl (hc (88, q_88) (List.mem_of_getElem? (i := 0) rfl)) ⟨⟨_, rfl, cmem_ok rfl⟩, vK_int _, vK_int _, trivial⟩ rfl rfl (fun vq sq hv hk => ?_)
    obtain ⟨sa10, sk11, sf12, sc13, sz14⟩ := sq
    obtain ⟨k1, k2, k3, k4, k5, k6, k7⟩ := hk
    obtain rfl : sa1 = sa10 := (k1 (wmem_no rfl)).symm
    obtain rfl : sk2 = sk11 := (k2).symm
    obtain rfl : sf3 = sf12 := (k3 (wmem_no rfl)).symm
    obtain rfl : sc4 = sc13 := (k5 (wmem_no rfl)).symm
    obtain rfl : sz5 = sz14 := (k6 (wmem_no rfl)).symm
    obtain ⟨vr, rfl, x15, rfl, hl, hu⟩ := hv
    replace h := h x15 hl hu
    change Rn _ _ _ _ _ _ _ _ _ _ [.int x15] _ _
    refine n_st [.ref 0, .int x7, .int x15, .null] rfl rfl rfl ?_
    refine n_ld rfl rfl rfl ?_
    refine n_c [.int 9, .int x15] (xo_push (.int 9)) rfl rfl ?_
    refine n_brN rfl rfl ⟨fun hcn => ?_, fun hcn => ?_⟩
    · replace h := h.1 (fun q => hcn ((i_eq (x := x15) (y := 9) rfl (show (9 : Int32).toInt = 9 by decide)).mpr q))
      refine n_ld rfl rfl rfl ?_
      refine n_brN rfl rfl ⟨fun hcn => ?_, fun hcn => ?_⟩
      · replace h := h.1 (fun q => hcn ((i_eq (x := x15) (y := 0) rfl (show (0 : Int32).toInt = 0 by decide)).mpr q))
        refine n_c [.int 0] (xo_push (.int 0)) rfl rfl ?_
        exact k_141_28_3 hd hc  h
      · replace h := h.2 ((i_eq (x := x15) (y := 0) rfl (show (0 : Int32).toInt = 0 by decide)).mp hcn)
        refine n_c [.int 1] (xo_push (.int 1)) rfl rfl ?_
        refine n_go rfl ?_
        exact k_141_28_3 hd hc  h
    · replace h := h.2 ((i_eq (x := x15) (y := 9) rfl (show (9 : Int32).toInt = 9 by decide)).mp hcn)
      refine n_c [.int (-2)] (xo_push (.int (-2))) rfl rfl ?_
      exact n_retI rfl h
  · replace h := h.2 (fun q => hcn ((i_eq (x := x7) (y := 0) rfl (show (0 : Int32).toInt = 0 by decide)).mpr q))
    refine n_ld rfl rfl rfl ?_
    exact n_retI rfl h
theorem t_141_3 {d : Nat} (hc : ∀ p ∈ s_w141, CTR (yex (d + 4)) p.1 p.2) {sa : Int32} {sk : Int32} {sf : Int32} {sc : Int32} {sz : Int32} {Q : Option Value → sW → Prop} (h : w_141_0 (fun k => Tt (d + 4) wcL (wk_141 3 k) (wk_141 3 k)) 3 sa sk sf sc sz Q) : Tt (d + 5) wcL (((84, 5), 3, [(0, 9, 3)]) : wW) (((84, 5), 3, [(0, 9, 3)]) : wW) 141 [.ref 0] (sa, sk, sf, sc, sz) Q := tt_of (E := xE_141) (L := xL_11) (ml := 3) (ret := some .int) rfl rfl rfl (k_141_0_3 rfl hc h)
set_option maxRecDepth 20000 in
theorem k_141_28_39 {d d0 : Nat} (hd : d = d0 + 4) (hc : ∀ p ∈ s_w141, CTR (yex d) p.1 p.2)  {a1 : Int32} {a2 : Int32} {t0 : Int32} {sa : Int32} {sk : Int32} {sf : Int32} {sc : Int32} {sz : Int32} {Q : Option Value → sW → Prop}  (h : w_141_28 (fun k => Tt d wcL (wk_141 39 k) (wk_141 39 k)) 39  a1 a2 t0 sa sk sf sc sz Q) : Rn d wcL (((84, 5), 39, [(0, 9, 39)]) : wW) (((84, 5), 39, [(0, 9, 39)]) : wW) xL_11 3 (some .int) xE_141 (xE_141.drop 28) [.ref 0, .int a1, .int a2, .null] [.int t0] (sa, sk, sf, sc, sz) Q := by
  unfold w_141_28 at h
  exact n_retI rfl h
set_option maxRecDepth 20000 in
theorem k_141_0_39 {d d0 : Nat} (hd : d = d0 + 4) (hc : ∀ p ∈ s_w141, CTR (yex d) p.1 p.2)  {sa : Int32} {sk : Int32} {sf : Int32} {sc : Int32} {sz : Int32} {Q : Option Value → sW → Prop}  (h : w_141_0 (fun k => Tt d wcL (wk_141 39 k) (wk_141 39 k)) 39  sa sk sf sc sz Q) : Rn d wcL (((84, 5), 39, [(0, 9, 39)]) : wW) (((84, 5), 39, [(0, 9, 39)]) : wW) xL_11 3 (some .int) xE_141 (xE_141.drop 0) [.ref 0, .null, .null, .null] [] (sa, sk, sf, sc, sz) Q := by
  unfold w_141_0 at h
  refine n_ld rfl rfl rfl ?_
  refine n_c [.int 2, .ref 0] (xo_push (.int 2)) rfl rfl ?_
  refine n_tt [.ref 0, .int 2] [] rfl rfl rfl rfl (Tt.imp h (fun v6 sq h => ?_))
  obtain ⟨sa1, sk2, sf3, sc4, sz5⟩ := sq
  obtain ⟨x7, rfl, h⟩ := h
  change Rn _ _ _ _ _ _ _ _ _ _ [.int x7] _ _
  refine n_st [.ref 0, .int x7, .null, .null] rfl rfl rfl ?_
  refine n_ld rfl rfl rfl ?_
  refine n_brP rfl rfl ⟨fun hcn => ?_, fun hcn => ?_⟩
  · replace h := h.1 ((i_eq (x := x7) (y := 0) rfl (show (0 : Int32).toInt = 0 by decide)).mp hcn)
    refine n_ld rfl rfl rfl ?_
    refine n_get (v := .ref 75) rfl (hv_R (a := 0) rfl rfl) ?_
    refine n_ld rfl rfl rfl ?_
    refine n_get (v := .ref 85) rfl (hv_R (a := 0) rfl rfl) ?_
    refine n_getI (a := 85) rfl rfl rfl (fun x8 hl hu => ?_)
    replace h := h x8
    refine n_ld rfl rfl rfl ?_
    refine n_get (v := .ref 85) rfl (hv_R (a := 0) rfl rfl) ?_
    refine n_getI (a := 85) rfl rfl rfl (fun x9 hl hu => ?_)
    replace h := h x9
    refine n_ctr [.ref 75, .int x8, .int x9] [] rfl rfl rfl (hc (88, q_88) (List.mem_of_getElem? (i := 0) rfl)) ⟨⟨_, rfl, cmem_ok rfl⟩, vK_int _, vK_int _, trivial⟩ rfl rfl (fun vq sq hv hk => ?_)
    obtain ⟨sa10, sk11, sf12, sc13, sz14⟩ := sq
    obtain ⟨k1, k2, k3, k4, k5, k6, k7⟩ := hk
    obtain rfl : sa1 = sa10 := (k1 (wmem_no rfl)).symm
    obtain rfl : sk2 = sk11 := (k2).symm
    obtain rfl : sf3 = sf12 := (k3 (wmem_no rfl)).symm
    obtain rfl : sc4 = sc13 := (k5 (wmem_no rfl)).symm
    obtain rfl : sz5 = sz14 := (k6 (wmem_no rfl)).symm
    obtain ⟨vr, rfl, x15, rfl, hl, hu⟩ := hv
    replace h := h x15 hl hu
    change Rn _ _ _ _ _ _ _ _ _ _ [.int x15] _ _
    refine n_st [.ref 0, .int x7, .int x15, .null] rfl rfl rfl ?_
    refine n_ld rfl rfl rfl ?_
    refine n_c [.int 9, .int x15] (xo_push (.int 9)) rfl rfl ?_
    refine n_brN rfl rfl ⟨fun hcn => ?_, fun hcn => ?_⟩
    · replace h := h.1 (fun q => hcn ((i_eq (x := x15) (y := 9) rfl (show (9 : Int32).toInt = 9 by decide)).mpr q))
      refine n_ld rfl rfl rfl ?_
      refine n_brN rfl rfl ⟨fun hcn => ?_, fun hcn => ?_⟩
      · replace h := h.1 (fun q => hcn ((i_eq (x := x15) (y := 0) rfl (show (0 : Int32).toInt = 0 by decide)).mpr q))
        refine n_c [.int 0] (xo_push (.int 0)) rfl rfl ?_
        exact k_141_28_39 hd hc  h
      · replace h := h.2 ((i_eq (x := x15) (y := 0) rfl (show (0 : Int32).toInt = 0 by decide)).mp hcn)
        refine n_c [.int 1] (xo_push (.int 1)) rfl rfl ?_
        refine n_go rfl ?_
        exact k_141_28_39 hd hc  h
    · replace h := h.2 ((i_eq (x := x15) (y := 9) rfl (show (9 : Int32).toInt = 9 by decide)).mp hcn)
      refine n_c [.int (-2)] (xo_push (.int (-2))) rfl rfl ?_
      exact n_retI rfl h
  · replace h := h.2 (fun q => hcn ((i_eq (x := x7) (y := 0) rfl (show (0 : Int32).toInt = 0 by decide)).mpr q))
    refine n_ld rfl rfl rfl ?_
    exact n_retI rfl h
theorem t_141_39 {d : Nat} (hc : ∀ p ∈ s_w141, CTR (yex (d + 4)) p.1 p.2) {sa : Int32} {sk : Int32} {sf : Int32} {sc : Int32} {sz : Int32} {Q : Option Value → sW → Prop} (h : w_141_0 (fun k => Tt (d + 4) wcL (wk_141 39 k) (wk_141 39 k)) 39 sa sk sf sc sz Q) : Tt (d + 5) wcL (((84, 5), 39, [(0, 9, 39)]) : wW) (((84, 5), 39, [(0, 9, 39)]) : wW) 141 [.ref 0] (sa, sk, sf, sc, sz) Q := tt_of (E := xE_141) (L := xL_11) (ml := 3) (ret := some .int) rfl rfl rfl (k_141_0_39 rfl hc h)
/-! FeatherBench.isMade -/
def wk_147 (P : Nat) : Nat → wW
  | _ => (((84, 5), P, [(0, 9, P)]) : wW)
def s_w147 : List (Nat × cSg) := [(98, q_98)]
def w_147_24 (T : Nat → Nat → List Value → sW → (Option Value → sW → Prop) → Prop) (P : Nat)  (a1 : Int32) (t0 : Int32) (sa : Int32) (sk : Int32) (sf : Int32) (sc : Int32) (sz : Int32) (Q : Option Value → sW → Prop) : Prop :=
  Q (some (.int t0)) (sa, sk, sf, sc, sz)
def w_147_0 (T : Nat → Nat → List Value → sW → (Option Value → sW → Prop) → Prop) (P : Nat)  (sa : Int32) (sk : Int32) (sf : Int32) (sc : Int32) (sz : Int32) (Q : Option Value → sW → Prop) : Prop :=
  T 0 152 [.ref 0, .int 1] (sa, sk, sf, sc, sz) (fun v6 (sa1, sk2, sf3, sc4, sz5) => ∃ x7, v6 = some (.int x7) ∧ ((x7.toInt = 0 → ∀ x8 : Int32, 0 ≤ x8.toInt → x8.toInt ≤ 1 → (¬ (x8.toInt = 0) → ∀ x9 : Int32, ∀ x15 : Int32, (x15.toInt < 0 → w_147_24 T P  x7 0 sa1 sk2 sf3 sc4 sz5 Q) ∧ (¬ (x15.toInt < 0) → w_147_24 T P  x7 1 sa1 sk2 sf3 sc4 sz5 Q)) ∧ (x8.toInt = 0 → Q (some (.int (-3))) (sa1, sk2, sf3, sc4, sz5))) ∧ (¬ (x7.toInt = 0) → Q (some (.int x7)) (sa1, sk2, sf3, sc4, sz5))))
set_option maxRecDepth 20000 in
theorem k_147_24_3 {d d0 : Nat} (hd : d = d0 + 4) (hc : ∀ p ∈ s_w147, CTR (yex d) p.1 p.2)  {a1 : Int32} {t0 : Int32} {sa : Int32} {sk : Int32} {sf : Int32} {sc : Int32} {sz : Int32} {Q : Option Value → sW → Prop}  (h : w_147_24 (fun k => Tt d wcL (wk_147 3 k) (wk_147 3 k)) 3  a1 t0 sa sk sf sc sz Q) : Rn d wcL (((84, 5), 3, [(0, 9, 3)]) : wW) (((84, 5), 3, [(0, 9, 3)]) : wW) xL_11 2 (some .int) xE_147 (xE_147.drop 24) [.ref 0, .int a1, .null] [.int t0] (sa, sk, sf, sc, sz) Q := by
  unfold w_147_24 at h
  exact n_retI rfl h
set_option maxRecDepth 20000 in
theorem k_147_0_3 {d d0 : Nat} (hd : d = d0 + 4) (hc : ∀ p ∈ s_w147, CTR (yex d) p.1 p.2)  {sa : Int32} {sk : Int32} {sf : Int32} {sc : Int32} {sz : Int32} {Q : Option Value → sW → Prop}  (h : w_147_0 (fun k => Tt d wcL (wk_147 3 k) (wk_147 3 k)) 3  sa sk sf sc sz Q) : Rn d wcL (((84, 5), 3, [(0, 9, 3)]) : wW) (((84, 5), 3, [(0, 9, 3)]) : wW) xL_11 2 (some .int) xE_147 (xE_147.drop 0) [.ref 0, .null, .null] [] (sa, sk, sf, sc, sz) Q := by
  unfold w_147_0 at h
  refine n_ld rfl rfl rfl ?_
  refine n_c [.int 1, .ref 0] (xo_push (.int 1)) rfl rfl ?_
  refine n_tt [.ref 0, .int 1] [] rfl rfl rfl rfl (Tt.imp h (fun v6 sq h => ?_))
  obtain ⟨sa1, sk2, sf3, sc4, sz5⟩ := sq
  obtain ⟨x7, rfl, h⟩ := h
  change Rn _ _ _ _ _ _ _ _ _ _ [.int x7] _ _
  refine n_st [.ref 0, .int x7, .null] rfl rfl rfl ?_
  refine n_ld rfl rfl rfl ?_
  refine n_brP rfl rfl ⟨fun hcn => ?_, fun hcn => ?_⟩
  · replace h := h.1 ((i_eq (x := x7) (y := 0) rfl (show (0 : Int32).toInt = 0 by decide)).mp hcn)
    refine n_ld rfl rfl rfl ?_
    refine n_get (v := .ref 197) rfl (hv_R (a := 0) rfl rfl) ?_
    refine n_getI (a := 197) rfl rfl rfl (fun x8 hl hu => ?_)
    replace h := h x8 hl hu
    refine n_brN rfl rfl ⟨fun hcn => ?_, fun hcn => ?_⟩
    · replace h := h.1 (fun q => hcn ((i_eq (x := x8) (y := 0) rfl (show (0 : Int32).toInt = 0 by decide)).mpr q))
      refine n_ld rfl rfl rfl ?_
      refine n_get (v := .ref 197) rfl (hv_R (a := 0) rfl rfl) ?_
      refine n_ld rfl rfl rfl ?_
      refine n_get (v := .ref 85) rfl (hv_R (a := 0) rfl rfl) ?_
      refine n_getI (a := 85) rfl rfl rfl (fun x9 hl hu => ?_)
      replace h := h x9
      refine n_ctr [.ref 197, .int x9] [] rfl rfl rfl (hc (98, q_98) (List.mem_of_getElem? (i := 0) rfl)) ⟨⟨_, rfl, cmem_ok rfl⟩, vK_int _, trivial⟩ rfl rfl (fun vq sq hv hk => ?_)
      obtain ⟨sa10, sk11, sf12, sc13, sz14⟩ := sq
      obtain ⟨k1, k2, k3, k4, k5, k6, k7⟩ := hk
      obtain rfl : sa1 = sa10 := (k1 (wmem_no rfl)).symm
      obtain rfl : sk2 = sk11 := (k2).symm
      obtain rfl : sf3 = sf12 := (k3 (wmem_no rfl)).symm
      obtain rfl : sc4 = sc13 := (k5 (wmem_no rfl)).symm
      obtain rfl : sz5 = sz14 := (k6 (wmem_no rfl)).symm
      obtain ⟨vr, rfl, x15, rfl, hl, hu⟩ := hv
      replace h := h x15
      change Rn _ _ _ _ _ _ _ _ _ _ [.int x15] _ _
      refine n_brP rfl rfl ⟨fun hcn => ?_, fun hcn => ?_⟩
      · replace h := h.1 ((i_lt (x := x15) (y := 0) rfl (show (0 : Int32).toInt = 0 by decide)).mp hcn)
        refine n_c [.int 0] (xo_push (.int 0)) rfl rfl ?_
        exact k_147_24_3 hd hc  h
      · replace h := h.2 (fun q => hcn ((i_lt (x := x15) (y := 0) rfl (show (0 : Int32).toInt = 0 by decide)).mpr q))
        refine n_c [.int 1] (xo_push (.int 1)) rfl rfl ?_
        refine n_go rfl ?_
        exact k_147_24_3 hd hc  h
    · replace h := h.2 ((i_eq (x := x8) (y := 0) rfl (show (0 : Int32).toInt = 0 by decide)).mp hcn)
      refine n_c [.int (-3)] (xo_push (.int (-3))) rfl rfl ?_
      exact n_retI rfl h
  · replace h := h.2 (fun q => hcn ((i_eq (x := x7) (y := 0) rfl (show (0 : Int32).toInt = 0 by decide)).mpr q))
    refine n_ld rfl rfl rfl ?_
    exact n_retI rfl h
theorem t_147_3 {d : Nat} (hc : ∀ p ∈ s_w147, CTR (yex (d + 4)) p.1 p.2) {sa : Int32} {sk : Int32} {sf : Int32} {sc : Int32} {sz : Int32} {Q : Option Value → sW → Prop} (h : w_147_0 (fun k => Tt (d + 4) wcL (wk_147 3 k) (wk_147 3 k)) 3 sa sk sf sc sz Q) : Tt (d + 5) wcL (((84, 5), 3, [(0, 9, 3)]) : wW) (((84, 5), 3, [(0, 9, 3)]) : wW) 147 [.ref 0] (sa, sk, sf, sc, sz) Q := tt_of (E := xE_147) (L := xL_11) (ml := 2) (ret := some .int) rfl rfl rfl (k_147_0_3 rfl hc h)
set_option maxRecDepth 20000 in
theorem k_147_24_39 {d d0 : Nat} (hd : d = d0 + 4) (hc : ∀ p ∈ s_w147, CTR (yex d) p.1 p.2)  {a1 : Int32} {t0 : Int32} {sa : Int32} {sk : Int32} {sf : Int32} {sc : Int32} {sz : Int32} {Q : Option Value → sW → Prop}  (h : w_147_24 (fun k => Tt d wcL (wk_147 39 k) (wk_147 39 k)) 39  a1 t0 sa sk sf sc sz Q) : Rn d wcL (((84, 5), 39, [(0, 9, 39)]) : wW) (((84, 5), 39, [(0, 9, 39)]) : wW) xL_11 2 (some .int) xE_147 (xE_147.drop 24) [.ref 0, .int a1, .null] [.int t0] (sa, sk, sf, sc, sz) Q := by
  unfold w_147_24 at h
  exact n_retI rfl h
set_option maxRecDepth 20000 in
theorem k_147_0_39 {d d0 : Nat} (hd : d = d0 + 4) (hc : ∀ p ∈ s_w147, CTR (yex d) p.1 p.2)  {sa : Int32} {sk : Int32} {sf : Int32} {sc : Int32} {sz : Int32} {Q : Option Value → sW → Prop}  (h : w_147_0 (fun k => Tt d wcL (wk_147 39 k) (wk_147 39 k)) 39  sa sk sf sc sz Q) : Rn d wcL (((84, 5), 39, [(0, 9, 39)]) : wW) (((84, 5), 39, [(0, 9, 39)]) : wW) xL_11 2 (some .int) xE_147 (xE_147.drop 0) [.ref 0, .null, .null] [] (sa, sk, sf, sc, sz) Q := by
  unfold w_147_0 at h
  refine n_ld rfl rfl rfl ?_
  refine n_c [.int 1, .ref 0] (xo_push (.int 1)) rfl rfl ?_
  refine n_tt [.ref 0, .int 1] [] rfl rfl rfl rfl (Tt.imp h (fun v6 sq h => ?_))
  obtain ⟨sa1, sk2, sf3, sc4, sz5⟩ := sq
  obtain ⟨x7, rfl, h⟩ := h
  change Rn _ _ _ _ _ _ _ _ _ _ [.int x7] _ _
  refine n_st [.ref 0, .int x7, .null] rfl rfl rfl ?_
  refine n_ld rfl rfl rfl ?_
  refine n_brP rfl rfl ⟨fun hcn => ?_, fun hcn => ?_⟩
  · replace h := h.1 ((i_eq (x := x7) (y := 0) rfl (show (0 : Int32).toInt = 0 by decide)).mp hcn)
    refine n_ld rfl rfl rfl ?_
    refine n_get (v := .ref 197) rfl (hv_R (a := 0) rfl rfl) ?_
    refine n_getI (a := 197) rfl rfl rfl (fun x8 hl hu => ?_)
    replace h := h x8 hl hu
    refine n_brN rfl rfl ⟨fun hcn => ?_, fun hcn => ?_⟩
    · replace h := h.1 (fun q => hcn ((i_eq (x := x8) (y := 0) rfl (show (0 : Int32).toInt = 0 by decide)).mpr q))
      refine n_ld rfl rfl rfl ?_
      refine n_get (v := .ref 197) rfl (hv_R (a := 0) rfl rfl) ?_
      refine n_ld rfl rfl rfl ?_
      refine n_get (v := .ref 85) rfl (hv_R (a := 0) rfl rfl) ?_
      refine n_getI (a := 85) rfl rfl rfl (fun x9 hl hu => ?_)
      replace h := h x9
      refine n_ctr [.ref 197, .int x9] [] rfl rfl rfl (hc (98, q_98) (List.mem_of_getElem? (i := 0) rfl)) ⟨⟨_, rfl, cmem_ok rfl⟩, vK_int _, trivial⟩ rfl rfl (fun vq sq hv hk => ?_)
      obtain ⟨sa10, sk11, sf12, sc13, sz14⟩ := sq
      obtain ⟨k1, k2, k3, k4, k5, k6, k7⟩ := hk
      obtain rfl : sa1 = sa10 := (k1 (wmem_no rfl)).symm
      obtain rfl : sk2 = sk11 := (k2).symm
      obtain rfl : sf3 = sf12 := (k3 (wmem_no rfl)).symm
      obtain rfl : sc4 = sc13 := (k5 (wmem_no rfl)).symm
      obtain rfl : sz5 = sz14 := (k6 (wmem_no rfl)).symm
      obtain ⟨vr, rfl, x15, rfl, hl, hu⟩ := hv
      replace h := h x15
      change Rn _ _ _ _ _ _ _ _ _ _ [.int x15] _ _
      refine n_brP rfl rfl ⟨fun hcn => ?_, fun hcn => ?_⟩
      · replace h := h.1 ((i_lt (x := x15) (y := 0) rfl (show (0 : Int32).toInt = 0 by decide)).mp hcn)
        refine n_c [.int 0] (xo_push (.int 0)) rfl rfl ?_
        exact k_147_24_39 hd hc  h
      · replace h := h.2 (fun q => hcn ((i_lt (x := x15) (y := 0) rfl (show (0 : Int32).toInt = 0 by decide)).mpr q))
        refine n_c [.int 1] (xo_push (.int 1)) rfl rfl ?_
        refine n_go rfl ?_
        exact k_147_24_39 hd hc  h
    · replace h := h.2 ((i_eq (x := x8) (y := 0) rfl (show (0 : Int32).toInt = 0 by decide)).mp hcn)
      refine n_c [.int (-3)] (xo_push (.int (-3))) rfl rfl ?_
      exact n_retI rfl h
  · replace h := h.2 (fun q => hcn ((i_eq (x := x7) (y := 0) rfl (show (0 : Int32).toInt = 0 by decide)).mpr q))
    refine n_ld rfl rfl rfl ?_
    exact n_retI rfl h
theorem t_147_39 {d : Nat} (hc : ∀ p ∈ s_w147, CTR (yex (d + 4)) p.1 p.2) {sa : Int32} {sk : Int32} {sf : Int32} {sc : Int32} {sz : Int32} {Q : Option Value → sW → Prop} (h : w_147_0 (fun k => Tt (d + 4) wcL (wk_147 39 k) (wk_147 39 k)) 39 sa sk sf sc sz Q) : Tt (d + 5) wcL (((84, 5), 39, [(0, 9, 39)]) : wW) (((84, 5), 39, [(0, 9, 39)]) : wW) 147 [.ref 0] (sa, sk, sf, sc, sz) Q := tt_of (E := xE_147) (L := xL_11) (ml := 2) (ret := some .int) rfl rfl rfl (k_147_0_39 rfl hc h)
