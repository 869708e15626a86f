/-! ===== the class: what its methods must be given (by wip/p2/cdec.py) ===== -/
def wmL : List (Nat × Nat) := [(2, 6), (2, 7), (2, 8), (2, 9), (2, 10), (2, 11), (2, 12), (2, 13), (2, 14), (6, 1), (6, 2), (7, 3)]
/-! FeatherBench$Machine.step -/
def wk_20 (P : Nat) : Nat → wW
  | _ => (((82, 3), P, [(105, 5, P)]) : wW)
def s_w20 : List (Nat × cSg) := [(29, q_29), (21, q_21), (25, q_25), (26, q_26), (23, q_23), (22, q_22), (27, q_27), (28, q_28)]
def w_20_83 (T : Nat → Nat → List Value → sW → (Option Value → sW → Prop) → Prop) (P : Nat)  (a1 : Int32) (a2 : Int32) (sa : Int32) (sk : Int32) (sf : Int32) (sc : Int32) (sz : Int32) (Q : Option Value → sW → Prop) : Prop :=
  Q none (sa, sk, sf, sc, sz)
def w_20_0 (T : Nat → Nat → List Value → sW → (Option Value → sW → Prop) → Prop) (P : Nat)  (a1 : Int32) (sa : Int32) (sk : Int32) (sf : Int32) (sc : Int32) (sz : Int32) (Q : Option Value → sW → Prop) : Prop :=
  ∀ x1 : Int32, (-2147483648 ≤ a1.toInt + 1 ∧ a1.toInt + 1 ≤ 2147483647 → x1.toInt = a1.toInt + 1) → x1.toInt % 16 = (a1.toInt + 1) % 16 → ∀ x2 : Int32, (x1.toInt % 2 = 0 → x2.toInt < 2147483647) → ∀ x3 : Int32, (-2147483648 ≤ a1.toInt + 0 ∧ a1.toInt + 0 ≤ 2147483647 → x3.toInt = a1.toInt + 0) → x3.toInt % 16 = (a1.toInt + 0) % 16 → ∀ x4 : Int32, (x3.toInt % 2 = 0 → x4.toInt < 2147483647) → (Int32.toInt x4 < 1 ∨ 6 < Int32.toInt x4 → w_20_83 T P  a1 x2 sa sk sf sc sz Q) ∧ (Int32.toInt x4 = 1 → ∀ x10 : Int32, ∀ x11 : Int32, (-2147483648 ≤ 2 * x10.toInt ∧ 2 * x10.toInt ≤ 2147483647 → x11.toInt = 2 * x10.toInt) → x11.toInt % 16 = (2 * x10.toInt) % 16 → ∀ x12 : Int32, (-2147483648 ≤ x11.toInt + 1 ∧ x11.toInt + 1 ≤ 2147483647 → x12.toInt = x11.toInt + 1) → x12.toInt % 16 = (x11.toInt + 1) % 16 → ∀ x13 : Int32, ∀ x14 : Int32, (-2147483648 ≤ x13.toInt + x2.toInt ∧ x13.toInt + x2.toInt ≤ 2147483647 → x14.toInt = x13.toInt + x2.toInt) → x14.toInt % 16 = (x13.toInt + x2.toInt) % 16 → ∀ x15 : Int32, w_20_83 T P  a1 x2 sa sk sf sc sz Q) ∧ (Int32.toInt x4 = 2 → ∀ x26 : Int32, w_20_83 T P  a1 x2 sa sk sf sc sz Q) ∧ (Int32.toInt x4 = 3 → ∀ x32 : Int32, (-2147483648 ≤ a1.toInt + 2 ∧ a1.toInt + 2 ≤ 2147483647 → x32.toInt = a1.toInt + 2) → x32.toInt % 16 = (a1.toInt + 2) % 16 → ∀ x33 : Int32, (x32.toInt % 2 = 0 → x33.toInt < 2147483647) → (-2147483648 ≤ x33.toInt ∧ x33.toInt ≤ 2147483646) ∧ (w_20_83 T P  a1 x2 sa sk sf sc sz Q)) ∧ (Int32.toInt x4 = 4 → ∀ x44 : Int32, 0 ≤ x44.toInt → x44.toInt ≤ 1 → (x44.toInt = 0 → w_20_83 T P  a1 x2 sa sk sf sc sz Q) ∧ (¬ (x44.toInt = 0) → ∀ x50 : Int32, ∀ x51 : Int32, (-2147483648 ≤ x50.toInt + 1 ∧ x50.toInt + 1 ≤ 2147483647 → x51.toInt = x50.toInt + 1) → x51.toInt % 16 = (x50.toInt + 1) % 16 → ∀ x52 : Int32, (-2147483648 ≤ x51.toInt + x2.toInt ∧ x51.toInt + x2.toInt ≤ 2147483647 → x52.toInt = x51.toInt + x2.toInt) → x52.toInt % 16 = (x51.toInt + x2.toInt) % 16 → ∀ x53 : Int32, w_20_83 T P  a1 x2 sa sk sf sc sz Q)) ∧ (Int32.toInt x4 = 5 → w_20_83 T P  a1 x2 sa sk sf sc sz Q) ∧ (Int32.toInt x4 = 6 → ∀ x64 : Int32, (-2147483648 ≤ a1.toInt + 2 ∧ a1.toInt + 2 ≤ 2147483647 → x64.toInt = a1.toInt + 2) → x64.toInt % 16 = (a1.toInt + 2) % 16 → ∀ x65 : Int32, (x64.toInt % 2 = 0 → x65.toInt < 2147483647) → w_20_83 T P  a1 x2 sa sk sf sc sz Q)
set_option maxRecDepth 20000 in
theorem k_20_83_3 {d d0 : Nat} (hd : d = d0 + 4) (hc : ∀ p ∈ s_w20, CTR (yex d) p.1 p.2)  {a1 : Int32} {a2 : Int32} {sa : Int32} {sk : Int32} {sf : Int32} {sc : Int32} {sz : Int32} {Q : Option Value → sW → Prop}  (h : w_20_83 (fun k => Tt d wmL (wk_20 3 k) (wk_20 3 k)) 3  a1 a2 sa sk sf sc sz Q) : Rn d wmL (((82, 3), 3, [(105, 5, 3)]) : wW) (((82, 3), 3, [(105, 5, 3)]) : wW) xL_2 3 (none) xE_20 (xE_20.drop 83) [.ref 105, .int a1, .int a2, .null, .null] [] (sa, sk, sf, sc, sz) Q := by
  unfold w_20_83 at h
  exact n_ret0 rfl h
set_option maxRecDepth 20000 in
theorem k_20_0_3 {d d0 : Nat} (hd : d = d0 + 4) (hc : ∀ p ∈ s_w20, CTR (yex d) p.1 p.2)  {a1 : Int32} {sa : Int32} {sk : Int32} {sf : Int32} {sc : Int32} {sz : Int32} {Q : Option Value → sW → Prop}  (h : w_20_0 (fun k => Tt d wmL (wk_20 3 k) (wk_20 3 k)) 3  a1 sa sk sf sc sz Q) : Rn d wmL (((82, 3), 3, [(105, 5, 3)]) : wW) (((82, 3), 3, [(105, 5, 3)]) : wW) xL_2 3 (none) xE_20 (xE_20.drop 0) [.ref 105, .int a1, .null, .null, .null] [] (sa, sk, sf, sc, sz) Q := by
  unfold w_20_0 at h
  refine n_ld rfl rfl rfl ?_
  refine n_get (v := .ref 3) rfl (hv_C (a := 105) (n := 0) rfl rfl rfl) ?_
  refine n_get (v := .ref 37) rfl (hv_R (a := 3) rfl rfl) ?_
  refine n_ld rfl rfl rfl ?_
  refine n_c [.int 1, .int a1, .ref 37] (xo_push (.int 1)) rfl rfl ?_
  replace h := h _ (i_add (x := a1) (y := 1) rfl (show (1 : Int32).toInt = 1 by decide))
  replace h := h (i_addm (x := a1) (y := 1) rfl (show (1 : Int32).toInt = 1 by decide))
  refine n_c [.int (a1 + 1), .ref 37] xo_iadd rfl rfl ?_
  refine n_row (a1 + 1) [] (a := 37) hd rfl rfl rfl rfl (fun x2 g1 g2 g3 => ?_)
  replace h := h x2 (g3 rfl)
  refine n_st [.ref 105, .int a1, .int x2, .null, .null] rfl rfl rfl ?_
  refine n_ld rfl rfl rfl ?_
  refine n_get (v := .ref 3) rfl (hv_C (a := 105) (n := 0) rfl rfl rfl) ?_
  refine n_get (v := .ref 37) rfl (hv_R (a := 3) rfl rfl) ?_
  refine n_ld rfl rfl rfl ?_
  refine n_c [.int 0, .int a1, .ref 37] (xo_push (.int 0)) rfl rfl ?_
  replace h := h _ (i_add (x := a1) (y := 0) rfl (show (0 : Int32).toInt = 0 by decide))
  replace h := h (i_addm (x := a1) (y := 0) rfl (show (0 : Int32).toInt = 0 by decide))
  refine n_c [.int (a1 + 0), .ref 37] xo_iadd rfl rfl ?_
  refine n_row (a1 + 0) [] (a := 37) hd rfl rfl rfl rfl (fun x4 g1 g2 g3 => ?_)
  replace h := h x4 (g3 rfl)
  by_cases hx : Int32.toInt x4 < 1 ∨ 6 < Int32.toInt x4
  · refine n_sw ?_
    refine ⟨81, by rw [if_pos hx]; rfl, ?_⟩
    replace h := h.1 hx
    refine n_ld rfl rfl rfl ?_
    refine n_ctr [.ref 105] [] rfl rfl rfl (hc (29, q_29) (List.mem_of_getElem? (i := 0) rfl)) ⟨⟨_, rfl, cmem_ok rfl⟩, trivial⟩ rfl rfl (fun vq sq hv hk => ?_)
    obtain ⟨sa5, sk6, sf7, sc8, sz9⟩ := sq
    obtain ⟨k1, k2, k3, k4, k5, k6, k7⟩ := hk
    obtain rfl : sa = sa5 := (k1 (wmem_no rfl)).symm
    obtain rfl : sk = sk6 := (k2).symm
    obtain rfl : sf = sf7 := (k3 (wmem_no rfl)).symm
    obtain rfl : sc = sc8 := (k5 (wmem_no rfl)).symm
    obtain rfl : sz = sz9 := (k6 (wmem_no rfl)).symm
    cases (show vq = none from hv)
    change Rn _ _ _ _ _ _ _ _ _ _ [] _ _
    exact k_20_83_3 hd hc  h
  · have hy : Int32.toInt x4 = 1 ∨ Int32.toInt x4 = 2 ∨ Int32.toInt x4 = 3 ∨ Int32.toInt x4 = 4 ∨ Int32.toInt x4 = 5 ∨ Int32.toInt x4 = 6 := by omega
    rcases hy with hy | hy | hy | hy | hy | hy
    · refine n_sw ?_
      refine ⟨16, by rw [if_neg hx, hy]; rfl, ?_⟩
      replace h := h.2.1 hy
      refine n_ld rfl rfl rfl ?_
      refine n_ld rfl rfl rfl ?_
      refine n_get (v := .ref 106) rfl (hv_R (a := 105) rfl rfl) ?_
      refine n_ld rfl rfl rfl ?_
      refine n_get (v := .ref 108) rfl (hv_R (a := 105) rfl rfl) ?_
      refine n_c [.int 2, .ref 108, .ref 106, .ref 105] (xo_push (.int 2)) rfl rfl ?_
      refine n_ld rfl rfl rfl ?_
      refine n_getI (a := 105) rfl rfl rfl (fun x10 hl hu => ?_)
      replace h := h x10
      replace h := h _ (i_mul (x := 2) (y := x10) (show (2 : Int32).toInt = 2 by decide) rfl)
      replace h := h (i_mulm (x := 2) (y := x10) (show (2 : Int32).toInt = 2 by decide) rfl)
      refine n_c [.int (2 * x10), .ref 108, .ref 106, .ref 105] xo_imul rfl rfl ?_
      refine n_c [.int 1, .int (2 * x10), .ref 108, .ref 106, .ref 105] (xo_push (.int 1)) rfl rfl ?_
      replace h := h _ (i_add (x := (2 * x10)) (y := 1) rfl (show (1 : Int32).toInt = 1 by decide))
      replace h := h (i_addm (x := (2 * x10)) (y := 1) rfl (show (1 : Int32).toInt = 1 by decide))
      refine n_c [.int ((2 * x10) + 1), .ref 108, .ref 106, .ref 105] xo_iadd rfl rfl ?_
      refine n_row ((2 * x10) + 1) [.ref 106, .ref 105] (a := 108) hd rfl rfl rfl rfl (fun x13 g1 g2 g3 => ?_)
      replace h := h x13 
      refine n_ld rfl rfl rfl ?_
      replace h := h _ (i_add (x := x13) (y := x2) rfl rfl)
      replace h := h (i_addm (x := x13) (y := x2) rfl rfl)
      refine n_c [.int (x13 + x2), .ref 106, .ref 105] xo_iadd rfl rfl ?_
      refine n_row (x13 + x2) [.ref 105] (a := 106) hd rfl rfl rfl rfl (fun x15 g1 g2 g3 => ?_)
      replace h := h x15 
      refine n_ctr [.ref 105, .int x15] [] rfl rfl rfl (hc (21, q_21) (List.mem_of_getElem? (i := 1) rfl)) ⟨⟨_, rfl, cmem_ok rfl⟩, vK_int _, trivial⟩ rfl rfl (fun vq sq hv hk => ?_)
      obtain ⟨sa16, sk17, sf18, sc19, sz20⟩ := sq
      obtain ⟨k1, k2, k3, k4, k5, k6, k7⟩ := hk
      obtain rfl : sa = sa16 := (k1 (wmem_no rfl)).symm
      obtain rfl : sk = sk17 := (k2).symm
      obtain rfl : sf = sf18 := (k3 (wmem_no rfl)).symm
      obtain rfl : sc = sc19 := (k5 (wmem_no rfl)).symm
      obtain rfl : sz = sz20 := (k6 (wmem_no rfl)).symm
      cases (show vq = none from hv)
      change Rn _ _ _ _ _ _ _ _ _ _ [] _ _
      refine n_go rfl ?_
      exact k_20_83_3 hd hc  h
    · refine n_sw ?_
      refine ⟨33, by rw [if_neg hx, hy]; rfl, ?_⟩
      replace h := h.2.2.1 hy
      refine n_ld rfl rfl rfl ?_
      refine n_ld rfl rfl rfl ?_
      refine n_ld rfl rfl rfl ?_
      refine n_ctr [.ref 105, .int x2] [.ref 105] rfl rfl rfl (hc (25, q_25) (List.mem_of_getElem? (i := 2) rfl)) ⟨⟨_, rfl, cmem_ok rfl⟩, vK_int _, trivial⟩ rfl rfl (fun vq sq hv hk => ?_)
      obtain ⟨sa21, sk22, sf23, sc24, sz25⟩ := sq
      obtain ⟨k1, k2, k3, k4, k5, k6, k7⟩ := hk
      obtain rfl : sa = sa21 := (k1 (wmem_no rfl)).symm
      obtain rfl : sk = sk22 := (k2).symm
      obtain rfl : sf = sf23 := (k3 (wmem_no rfl)).symm
      obtain rfl : sc = sc24 := (k5 (wmem_no rfl)).symm
      obtain rfl : sz = sz25 := (k6 (wmem_no rfl)).symm
      obtain ⟨vr, rfl, x26, rfl, hl, hu⟩ := hv
      replace h := h x26
      change Rn _ _ _ _ _ _ _ _ _ _ [.int x26, .ref 105] _ _
      refine n_ctr [.ref 105, .int x26] [] rfl rfl rfl (hc (21, q_21) (List.mem_of_getElem? (i := 1) rfl)) ⟨⟨_, rfl, cmem_ok rfl⟩, vK_int _, trivial⟩ rfl rfl (fun vq sq hv hk => ?_)
      obtain ⟨sa27, sk28, sf29, sc30, sz31⟩ := sq
      obtain ⟨k1, k2, k3, k4, k5, k6, k7⟩ := hk
      obtain rfl : sa = sa27 := (k1 (wmem_no rfl)).symm
      obtain rfl : sk = sk28 := (k2).symm
      obtain rfl : sf = sf29 := (k3 (wmem_no rfl)).symm
      obtain rfl : sc = sc30 := (k5 (wmem_no rfl)).symm
      obtain rfl : sz = sz31 := (k6 (wmem_no rfl)).symm
      cases (show vq = none from hv)
      change Rn _ _ _ _ _ _ _ _ _ _ [] _ _
      refine n_go rfl ?_
      exact k_20_83_3 hd hc  h
    · refine n_sw ?_
      refine ⟨39, by rw [if_neg hx, hy]; rfl, ?_⟩
      replace h := h.2.2.2.1 hy
      refine n_ld rfl rfl rfl ?_
      refine n_ld rfl rfl rfl ?_
      refine n_get (v := .ref 3) rfl (hv_C (a := 105) (n := 0) rfl rfl rfl) ?_
      refine n_get (v := .ref 37) rfl (hv_R (a := 3) rfl rfl) ?_
      refine n_ld rfl rfl rfl ?_
      refine n_c [.int 2, .int a1, .ref 37, .ref 105] (xo_push (.int 2)) rfl rfl ?_
      replace h := h _ (i_add (x := a1) (y := 2) rfl (show (2 : Int32).toInt = 2 by decide))
      replace h := h (i_addm (x := a1) (y := 2) rfl (show (2 : Int32).toInt = 2 by decide))
      refine n_c [.int (a1 + 2), .ref 37, .ref 105] xo_iadd rfl rfl ?_
      refine n_row (a1 + 2) [.ref 105] (a := 37) hd rfl rfl rfl rfl (fun x33 g1 g2 g3 => ?_)
      replace h := h x33 (g3 rfl)
      refine n_ctr [.ref 105, .int x33] [] rfl rfl rfl (hc (26, q_26) (List.mem_of_getElem? (i := 3) rfl)) ⟨⟨_, rfl, cmem_ok rfl⟩, ⟨_, rfl, h.1.1, h.1.2⟩, trivial⟩ rfl rfl (fun vq sq hv hk => ?_)
      replace h := h.2
      obtain ⟨sa34, sk35, sf36, sc37, sz38⟩ := sq
      obtain ⟨k1, k2, k3, k4, k5, k6, k7⟩ := hk
      obtain rfl : sa = sa34 := (k1 (wmem_no rfl)).symm
      obtain rfl : sk = sk35 := (k2).symm
      obtain rfl : sf = sf36 := (k3 (wmem_no rfl)).symm
      obtain rfl : sc = sc37 := (k5 (wmem_no rfl)).symm
      obtain rfl : sz = sz38 := (k6 (wmem_no rfl)).symm
      cases (show vq = none from hv)
      change Rn _ _ _ _ _ _ _ _ _ _ [] _ _
      refine n_go rfl ?_
      exact k_20_83_3 hd hc  h
    · refine n_sw ?_
      refine ⟨49, by rw [if_neg hx, hy]; rfl, ?_⟩
      replace h := h.2.2.2.2.1 hy
      refine n_ld rfl rfl rfl ?_
      refine n_c [.int 1, .ref 105] (xo_push (.int 1)) rfl rfl ?_
      refine n_ctr [.ref 105, .int 1] [] rfl rfl rfl (hc (23, q_23) (List.mem_of_getElem? (i := 4) rfl)) ⟨⟨_, rfl, cmem_ok rfl⟩, vK_int _, trivial⟩ rfl rfl (fun vq sq hv hk => ?_)
      obtain ⟨sa39, sk40, sf41, sc42, sz43⟩ := sq
      obtain ⟨k1, k2, k3, k4, k5, k6, k7⟩ := hk
      obtain rfl : sa = sa39 := (k1 (wmem_no rfl)).symm
      obtain rfl : sk = sk40 := (k2).symm
      obtain rfl : sf = sf41 := (k3 (wmem_no rfl)).symm
      obtain rfl : sc = sc42 := (k5 (wmem_no rfl)).symm
      obtain rfl : sz = sz43 := (k6 (wmem_no rfl)).symm
      obtain ⟨vr, rfl, x44, rfl, hl, hu⟩ := hv
      replace h := h x44 hl hu
      change Rn _ _ _ _ _ _ _ _ _ _ [.int x44] _ _
      refine n_brP rfl rfl ⟨fun hcn => ?_, fun hcn => ?_⟩
      · replace h := h.1 ((i_eq (x := x44) (y := 0) rfl (show (0 : Int32).toInt = 0 by decide)).mp hcn)
        exact k_20_83_3 hd hc  h
      · replace h := h.2 (fun q => hcn ((i_eq (x := x44) (y := 0) rfl (show (0 : Int32).toInt = 0 by decide)).mpr q))
        refine n_ld rfl rfl rfl ?_
        refine n_ld rfl rfl rfl ?_
        refine n_get (v := .ref 111) rfl (hv_R (a := 105) rfl rfl) ?_
        refine n_ld rfl rfl rfl ?_
        refine n_ctr [.ref 105] [.ref 111, .ref 105] rfl rfl rfl (hc (22, q_22) (List.mem_of_getElem? (i := 5) rfl)) ⟨⟨_, rfl, cmem_ok rfl⟩, trivial⟩ rfl rfl (fun vq sq hv hk => ?_)
        obtain ⟨sa45, sk46, sf47, sc48, sz49⟩ := sq
        obtain ⟨k1, k2, k3, k4, k5, k6, k7⟩ := hk
        obtain rfl : sa = sa45 := (k1 (wmem_no rfl)).symm
        obtain rfl : sk = sk46 := (k2).symm
        obtain rfl : sf = sf47 := (k3 (wmem_no rfl)).symm
        obtain rfl : sc = sc48 := (k5 (wmem_no rfl)).symm
        obtain rfl : sz = sz49 := (k6 (wmem_no rfl)).symm
        obtain ⟨vr, rfl, x50, rfl, hl, hu⟩ := hv
        replace h := h x50
        change Rn _ _ _ _ _ _ _ _ _ _ [.int x50, .ref 111, .ref 105] _ _
        refine n_c [.int 1, .int x50, .ref 111, .ref 105] (xo_push (.int 1)) rfl rfl ?_
        replace h := h _ (i_add (x := x50) (y := 1) rfl (show (1 : Int32).toInt = 1 by decide))
        replace h := h (i_addm (x := x50) (y := 1) rfl (show (1 : Int32).toInt = 1 by decide))
        refine n_c [.int (x50 + 1), .ref 111, .ref 105] xo_iadd rfl rfl ?_
        refine n_ld rfl rfl rfl ?_
        replace h := h _ (i_add (x := (x50 + 1)) (y := x2) rfl rfl)
        replace h := h (i_addm (x := (x50 + 1)) (y := x2) rfl rfl)
        refine n_c [.int ((x50 + 1) + x2), .ref 111, .ref 105] xo_iadd rfl rfl ?_
        refine n_row ((x50 + 1) + x2) [.ref 105] (a := 111) hd rfl rfl rfl rfl (fun x53 g1 g2 g3 => ?_)
        replace h := h x53 
        refine n_ctr [.ref 105, .int x53] [] rfl rfl rfl (hc (21, q_21) (List.mem_of_getElem? (i := 1) rfl)) ⟨⟨_, rfl, cmem_ok rfl⟩, vK_int _, trivial⟩ rfl rfl (fun vq sq hv hk => ?_)
        obtain ⟨sa54, sk55, sf56, sc57, sz58⟩ := sq
        obtain ⟨k1, k2, k3, k4, k5, k6, k7⟩ := hk
        obtain rfl : sa = sa54 := (k1 (wmem_no rfl)).symm
        obtain rfl : sk = sk55 := (k2).symm
        obtain rfl : sf = sf56 := (k3 (wmem_no rfl)).symm
        obtain rfl : sc = sc57 := (k5 (wmem_no rfl)).symm
        obtain rfl : sz = sz58 := (k6 (wmem_no rfl)).symm
        cases (show vq = none from hv)
        change Rn _ _ _ _ _ _ _ _ _ _ [] _ _
        refine n_go rfl ?_
        exact k_20_83_3 hd hc  h
    · refine n_sw ?_
      refine ⟨65, by rw [if_neg hx, hy]; rfl, ?_⟩
      replace h := h.2.2.2.2.2.1 hy
      refine n_ld rfl rfl rfl ?_
      refine n_ld rfl rfl rfl ?_
      refine n_ld rfl rfl rfl ?_
      refine n_ctr [.ref 105, .int a1, .int x2] [] rfl rfl rfl (hc (27, q_27) (List.mem_of_getElem? (i := 6) rfl)) ⟨⟨_, rfl, cmem_ok rfl⟩, vK_int _, vK_int _, trivial⟩ rfl rfl (fun vq sq hv hk => ?_)
      obtain ⟨sa59, sk60, sf61, sc62, sz63⟩ := sq
      obtain ⟨k1, k2, k3, k4, k5, k6, k7⟩ := hk
      obtain rfl : sa = sa59 := (k1 (wmem_no rfl)).symm
      obtain rfl : sk = sk60 := (k2).symm
      obtain rfl : sf = sf61 := (k3 (wmem_no rfl)).symm
      obtain rfl : sc = sc62 := (k5 (wmem_no rfl)).symm
      obtain rfl : sz = sz63 := (k6 (wmem_no rfl)).symm
      cases (show vq = none from hv)
      change Rn _ _ _ _ _ _ _ _ _ _ [] _ _
      refine n_go rfl ?_
      exact k_20_83_3 hd hc  h
    · refine n_sw ?_
      refine ⟨70, by rw [if_neg hx, hy]; rfl, ?_⟩
      replace h := h.2.2.2.2.2.2 hy
      refine n_ld rfl rfl rfl ?_
      refine n_ld rfl rfl rfl ?_
      refine n_ld rfl rfl rfl ?_
      refine n_get (v := .ref 3) rfl (hv_C (a := 105) (n := 0) rfl rfl rfl) ?_
      refine n_get (v := .ref 37) rfl (hv_R (a := 3) rfl rfl) ?_
      refine n_ld rfl rfl rfl ?_
      refine n_c [.int 2, .int a1, .ref 37, .int x2, .ref 105] (xo_push (.int 2)) rfl rfl ?_
      replace h := h _ (i_add (x := a1) (y := 2) rfl (show (2 : Int32).toInt = 2 by decide))
      replace h := h (i_addm (x := a1) (y := 2) rfl (show (2 : Int32).toInt = 2 by decide))
      refine n_c [.int (a1 + 2), .ref 37, .int x2, .ref 105] xo_iadd rfl rfl ?_
      refine n_row (a1 + 2) [.int x2, .ref 105] (a := 37) hd rfl rfl rfl rfl (fun x65 g1 g2 g3 => ?_)
      replace h := h x65 (g3 rfl)
      refine n_ctr [.ref 105, .int x2, .int x65] [] rfl rfl rfl (hc (28, q_28) (List.mem_of_getElem? (i := 7) rfl)) ⟨⟨_, rfl, cmem_ok rfl⟩, vK_int _, vK_int _, trivial⟩ rfl rfl (fun vq sq hv hk => ?_)
      obtain ⟨sa66, sk67, sf68, sc69, sz70⟩ := sq
      obtain ⟨k1, k2, k3, k4, k5, k6, k7⟩ := hk
      obtain rfl : sa = sa66 := (k1 (wmem_no rfl)).symm
      obtain rfl : sk = sk67 := (k2).symm
      obtain rfl : sf = sf68 := (k3 (wmem_no rfl)).symm
      obtain rfl : sc = sc69 := (k5 (wmem_no rfl)).symm
      obtain rfl : sz = sz70 := (k6 (wmem_no rfl)).symm
      cases (show vq = none from hv)
      change Rn _ _ _ _ _ _ _ _ _ _ [] _ _
      refine n_go rfl ?_
      exact k_20_83_3 hd hc  h
theorem t_20_3 {d : Nat} (hc : ∀ p ∈ s_w20, CTR (yex (d + 4)) p.1 p.2) {a1 : Int32} {sa : Int32} {sk : Int32} {sf : Int32} {sc : Int32} {sz : Int32} {Q : Option Value → sW → Prop} (h : w_20_0 (fun k => Tt (d + 4) wmL (wk_20 3 k) (wk_20 3 k)) 3 a1 sa sk sf sc sz Q) : Tt (d + 5) wmL (((82, 3), 3, [(105, 5, 3)]) : wW) (((82, 3), 3, [(105, 5, 3)]) : wW) 20 [.ref 105, .int a1] (sa, sk, sf, sc, sz) Q := tt_of (E := xE_20) (L := xL_2) (ml := 3) (ret := none) rfl rfl rfl (k_20_0_3 rfl hc h)
set_option maxRecDepth 20000 in
theorem k_20_83_39 {d d0 : Nat} (hd : d = d0 + 4) (hc : ∀ p ∈ s_w20, CTR (yex d) p.1 p.2)  {a1 : Int32} {a2 : Int32} {sa : Int32} {sk : Int32} {sf : Int32} {sc : Int32} {sz : Int32} {Q : Option Value → sW → Prop}  (h : w_20_83 (fun k => Tt d wmL (wk_20 39 k) (wk_20 39 k)) 39  a1 a2 sa sk sf sc sz Q) : Rn d wmL (((82, 3), 39, [(105, 5, 39)]) : wW) (((82, 3), 39, [(105, 5, 39)]) : wW) xL_2 3 (none) xE_20 (xE_20.drop 83) [.ref 105, .int a1, .int a2, .null, .null] [] (sa, sk, sf, sc, sz) Q := by
  unfold w_20_83 at h
  exact n_ret0 rfl h
set_option maxRecDepth 20000 in
theorem k_20_0_39 {d d0 : Nat} (hd : d = d0 + 4) (hc : ∀ p ∈ s_w20, CTR (yex d) p.1 p.2)  {a1 : Int32} {sa : Int32} {sk : Int32} {sf : Int32} {sc : Int32} {sz : Int32} {Q : Option Value → sW → Prop}  (h : w_20_0 (fun k => Tt d wmL (wk_20 39 k) (wk_20 39 k)) 39  a1 sa sk sf sc sz Q) : Rn d wmL (((82, 3), 39, [(105, 5, 39)]) : wW) (((82, 3), 39, [(105, 5, 39)]) : wW) xL_2 3 (none) xE_20 (xE_20.drop 0) [.ref 105, .int a1, .null, .null, .null] [] (sa, sk, sf, sc, sz) Q := by
  unfold w_20_0 at h
  refine n_ld rfl rfl rfl ?_
  refine n_get (v := .ref 39) rfl (hv_C (a := 105) (n := 0) rfl rfl rfl) ?_
  refine n_get (v := .ref 73) rfl (hv_R (a := 39) rfl rfl) ?_
  refine n_ld rfl rfl rfl ?_
  refine n_c [.int 1, .int a1, .ref 73] (xo_push (.int 1)) rfl rfl ?_
  replace h := h _ (i_add (x := a1) (y := 1) rfl (show (1 : Int32).toInt = 1 by decide))
  replace h := h (i_addm (x := a1) (y := 1) rfl (show (1 : Int32).toInt = 1 by decide))
  refine n_c [.int (a1 + 1), .ref 73] xo_iadd rfl rfl ?_
  refine n_row (a1 + 1) [] (a := 73) hd rfl rfl rfl rfl (fun x2 g1 g2 g3 => ?_)
  replace h := h x2 (g3 rfl)
  refine n_st [.ref 105, .int a1, .int x2, .null, .null] rfl rfl rfl ?_
  refine n_ld rfl rfl rfl ?_
  refine n_get (v := .ref 39) rfl (hv_C (a := 105) (n := 0) rfl rfl rfl) ?_
  refine n_get (v := .ref 73) rfl (hv_R (a := 39) rfl rfl) ?_
  refine n_ld rfl rfl rfl ?_
  refine n_c [.int 0, .int a1, .ref 73] (xo_push (.int 0)) rfl rfl ?_
  replace h := h _ (i_add (x := a1) (y := 0) rfl (show (0 : Int32).toInt = 0 by decide))
  replace h := h (i_addm (x := a1) (y := 0) rfl (show (0 : Int32).toInt = 0 by decide))
  refine n_c [.int (a1 + 0), .ref 73] xo_iadd rfl rfl ?_
  refine n_row (a1 + 0) [] (a := 73) hd rfl rfl rfl rfl (fun x4 g1 g2 g3 => ?_)
  replace h := h x4 (g3 rfl)
  by_cases hx : Int32.toInt x4 < 1 ∨ 6 < Int32.toInt x4
  · refine n_sw ?_
    refine ⟨81, by rw [if_pos hx]; rfl, ?_⟩
    replace h := h.1 hx
    refine n_ld rfl rfl rfl ?_
    refine n_ctr [.ref 105] [] rfl rfl rfl (hc (29, q_29) (List.mem_of_getElem? (i := 0) rfl)) ⟨⟨_, rfl, cmem_ok rfl⟩, trivial⟩ rfl rfl (fun vq sq hv hk => ?_)
    obtain ⟨sa5, sk6, sf7, sc8, sz9⟩ := sq
    obtain ⟨k1, k2, k3, k4, k5, k6, k7⟩ := hk
    obtain rfl : sa = sa5 := (k1 (wmem_no rfl)).symm
    obtain rfl : sk = sk6 := (k2).symm
    obtain rfl : sf = sf7 := (k3 (wmem_no rfl)).symm
    obtain rfl : sc = sc8 := (k5 (wmem_no rfl)).symm
    obtain rfl : sz = sz9 := (k6 (wmem_no rfl)).symm
    cases (show vq = none from hv)
    change Rn _ _ _ _ _ _ _ _ _ _ [] _ _
    exact k_20_83_39 hd hc  h
  · have hy : Int32.toInt x4 = 1 ∨ Int32.toInt x4 = 2 ∨ Int32.toInt x4 = 3 ∨ Int32.toInt x4 = 4 ∨ Int32.toInt x4 = 5 ∨ Int32.toInt x4 = 6 := by omega
    rcases hy with hy | hy | hy | hy | hy | hy
    · refine n_sw ?_
      refine ⟨16, by rw [if_neg hx, hy]; rfl, ?_⟩
      replace h := h.2.1 hy
      refine n_ld rfl rfl rfl ?_
      refine n_ld rfl rfl rfl ?_
      refine n_get (v := .ref 106) rfl (hv_R (a := 105) rfl rfl) ?_
      refine n_ld rfl rfl rfl ?_
      refine n_get (v := .ref 108) rfl (hv_R (a := 105) rfl rfl) ?_
      refine n_c [.int 2, .ref 108, .ref 106, .ref 105] (xo_push (.int 2)) rfl rfl ?_
      refine n_ld rfl rfl rfl ?_
      refine n_getI (a := 105) rfl rfl rfl (fun x10 hl hu => ?_)
      replace h := h x10
      replace h := h _ (i_mul (x := 2) (y := x10) (show (2 : Int32).toInt = 2 by decide) rfl)
      replace h := h (i_mulm (x := 2) (y := x10) (show (2 : Int32).toInt = 2 by decide) rfl)
      refine n_c [.int (2 * x10), .ref 108, .ref 106, .ref 105] xo_imul rfl rfl ?_
      refine n_c [.int 1, .int (2 * x10), .ref 108, .ref 106, .ref 105] (xo_push (.int 1)) rfl rfl ?_
      replace h := h _ (i_add (x := (2 * x10)) (y := 1) rfl (show (1 : Int32).toInt = 1 by decide))
      replace h := h (i_addm (x := (2 * x10)) (y := 1) rfl (show (1 : Int32).toInt = 1 by decide))
      refine n_c [.int ((2 * x10) + 1), .ref 108, .ref 106, .ref 105] xo_iadd rfl rfl ?_
      refine n_row ((2 * x10) + 1) [.ref 106, .ref 105] (a := 108) hd rfl rfl rfl rfl (fun x13 g1 g2 g3 => ?_)
      replace h := h x13 
      refine n_ld rfl rfl rfl ?_
      replace h := h _ (i_add (x := x13) (y := x2) rfl rfl)
      replace h := h (i_addm (x := x13) (y := x2) rfl rfl)
      refine n_c [.int (x13 + x2), .ref 106, .ref 105] xo_iadd rfl rfl ?_
      refine n_row (x13 + x2) [.ref 105] (a := 106) hd rfl rfl rfl rfl (fun x15 g1 g2 g3 => ?_)
      replace h := h x15 
      refine n_ctr [.ref 105, .int x15] [] rfl rfl rfl (hc (21, q_21) (List.mem_of_getElem? (i := 1) rfl)) ⟨⟨_, rfl, cmem_ok rfl⟩, vK_int _, trivial⟩ rfl rfl (fun vq sq hv hk => ?_)
      obtain ⟨sa16, sk17, sf18, sc19, sz20⟩ := sq
      obtain ⟨k1, k2, k3, k4, k5, k6, k7⟩ := hk
      obtain rfl : sa = sa16 := (k1 (wmem_no rfl)).symm
      obtain rfl : sk = sk17 := (k2).symm
      obtain rfl : sf = sf18 := (k3 (wmem_no rfl)).symm
      obtain rfl : sc = sc19 := (k5 (wmem_no rfl)).symm
      obtain rfl : sz = sz20 := (k6 (wmem_no rfl)).symm
      cases (show vq = none from hv)
      change Rn _ _ _ _ _ _ _ _ _ _ [] _ _
      refine n_go rfl ?_
      exact k_20_83_39 hd hc  h
    · refine n_sw ?_
      refine ⟨33, by rw [if_neg hx, hy]; rfl, ?_⟩
      replace h := h.2.2.1 hy
      refine n_ld rfl rfl rfl ?_
      refine n_ld rfl rfl rfl ?_
      refine n_ld rfl rfl rfl ?_
      refine n_ctr [.ref 105, .int x2] [.ref 105] rfl rfl rfl (hc (25, q_25) (List.mem_of_getElem? (i := 2) rfl)) ⟨⟨_, rfl, cmem_ok rfl⟩, vK_int _, trivial⟩ rfl rfl (fun vq sq hv hk => ?_)
      obtain ⟨sa21, sk22, sf23, sc24, sz25⟩ := sq
      obtain ⟨k1, k2, k3, k4, k5, k6, k7⟩ := hk
      obtain rfl : sa = sa21 := (k1 (wmem_no rfl)).symm
      obtain rfl : sk = sk22 := (k2).symm
      obtain rfl : sf = sf23 := (k3 (wmem_no rfl)).symm
      obtain rfl : sc = sc24 := (k5 (wmem_no rfl)).symm
      obtain rfl : sz = sz25 := (k6 (wmem_no rfl)).symm
      obtain ⟨vr, rfl, x26, rfl, hl, hu⟩ := hv
      replace h := h x26
      change Rn _ _ _ _ _ _ _ _ _ _ [.int x26, .ref 105] _ _
      refine n_ctr [.ref 105, .int x26] [] rfl rfl rfl (hc (21, q_21) (List.mem_of_getElem? (i := 1) rfl)) ⟨⟨_, rfl, cmem_ok rfl⟩, vK_int _, trivial⟩ rfl rfl (fun vq sq hv hk => ?_)
      obtain ⟨sa27, sk28, sf29, sc30, sz31⟩ := sq
      obtain ⟨k1, k2, k3, k4, k5, k6, k7⟩ := hk
      obtain rfl : sa = sa27 := (k1 (wmem_no rfl)).symm
      obtain rfl : sk = sk28 := (k2).symm
      obtain rfl : sf = sf29 := (k3 (wmem_no rfl)).symm
      obtain rfl : sc = sc30 := (k5 (wmem_no rfl)).symm
      obtain rfl : sz = sz31 := (k6 (wmem_no rfl)).symm
      cases (show vq = none from hv)
      change Rn _ _ _ _ _ _ _ _ _ _ [] _ _
      refine n_go rfl ?_
      exact k_20_83_39 hd hc  h
    · refine n_sw ?_
      refine ⟨39, by rw [if_neg hx, hy]; rfl, ?_⟩
      replace h := h.2.2.2.1 hy
      refine n_ld rfl rfl rfl ?_
      refine n_ld rfl rfl rfl ?_
      refine n_get (v := .ref 39) rfl (hv_C (a := 105) (n := 0) rfl rfl rfl) ?_
      refine n_get (v := .ref 73) rfl (hv_R (a := 39) rfl rfl) ?_
      refine n_ld rfl rfl rfl ?_
      refine n_c [.int 2, .int a1, .ref 73, .ref 105] (xo_push (.int 2)) rfl rfl ?_
      replace h := h _ (i_add (x := a1) (y := 2) rfl (show (2 : Int32).toInt = 2 by decide))
      replace h := h (i_addm (x := a1) (y := 2) rfl (show (2 : Int32).toInt = 2 by decide))
      refine n_c [.int (a1 + 2), .ref 73, .ref 105] xo_iadd rfl rfl ?_
      refine n_row (a1 + 2) [.ref 105] (a := 73) hd rfl rfl rfl rfl (fun x33 g1 g2 g3 => ?_)
      replace h := h x33 (g3 rfl)
      refine n_ctr [.ref 105, .int x33] [] rfl rfl rfl (hc (26, q_26) (List.mem_of_getElem? (i := 3) rfl)) ⟨⟨_, rfl, cmem_ok rfl⟩, ⟨_, rfl, h.1.1, h.1.2⟩, trivial⟩ rfl rfl (fun vq sq hv hk => ?_)
      replace h := h.2
      obtain ⟨sa34, sk35, sf36, sc37, sz38⟩ := sq
      obtain ⟨k1, k2, k3, k4, k5, k6, k7⟩ := hk
      obtain rfl : sa = sa34 := (k1 (wmem_no rfl)).symm
      obtain rfl : sk = sk35 := (k2).symm
      obtain rfl : sf = sf36 := (k3 (wmem_no rfl)).symm
      obtain rfl : sc = sc37 := (k5 (wmem_no rfl)).symm
      obtain rfl : sz = sz38 := (k6 (wmem_no rfl)).symm
      cases (show vq = none from hv)
      change Rn _ _ _ _ _ _ _ _ _ _ [] _ _
      refine n_go rfl ?_
      exact k_20_83_39 hd hc  h
    · refine n_sw ?_
      refine ⟨49, by rw [if_neg hx, hy]; rfl, ?_⟩
      replace h := h.2.2.2.2.1 hy
      refine n_ld rfl rfl rfl ?_
      refine n_c [.int 1, .ref 105] (xo_push (.int 1)) rfl rfl ?_
      refine n_ctr [.ref 105, .int 1] [] rfl rfl rfl (hc (23, q_23) (List.mem_of_getElem? (i := 4) rfl)) ⟨⟨_, rfl, cmem_ok rfl⟩, vK_int _, trivial⟩ rfl rfl (fun vq sq hv hk => ?_)
      obtain ⟨sa39, sk40, sf41, sc42, sz43⟩ := sq
      obtain ⟨k1, k2, k3, k4, k5, k6, k7⟩ := hk
      obtain rfl : sa = sa39 := (k1 (wmem_no rfl)).symm
      obtain rfl : sk = sk40 := (k2).symm
      obtain rfl : sf = sf41 := (k3 (wmem_no rfl)).symm
      obtain rfl : sc = sc42 := (k5 (wmem_no rfl)).symm
      obtain rfl : sz = sz43 := (k6 (wmem_no rfl)).symm
      obtain ⟨vr, rfl, x44, rfl, hl, hu⟩ := hv
      replace h := h x44 hl hu
      change Rn _ _ _ _ _ _ _ _ _ _ [.int x44] _ _
      refine n_brP rfl rfl ⟨fun hcn => ?_, fun hcn => ?_⟩
      · replace h := h.1 ((i_eq (x := x44) (y := 0) rfl (show (0 : Int32).toInt = 0 by decide)).mp hcn)
        exact k_20_83_39 hd hc  h
      · replace h := h.2 (fun q => hcn ((i_eq (x := x44) (y := 0) rfl (show (0 : Int32).toInt = 0 by decide)).mpr q))
        refine n_ld rfl rfl rfl ?_
        refine n_ld rfl rfl rfl ?_
        refine n_get (v := .ref 111) rfl (hv_R (a := 105) rfl rfl) ?_
        refine n_ld rfl rfl rfl ?_
        refine n_ctr [.ref 105] [.ref 111, .ref 105] rfl rfl rfl (hc (22, q_22) (List.mem_of_getElem? (i := 5) rfl)) ⟨⟨_, rfl, cmem_ok rfl⟩, trivial⟩ rfl rfl (fun vq sq hv hk => ?_)
        obtain ⟨sa45, sk46, sf47, sc48, sz49⟩ := sq
        obtain ⟨k1, k2, k3, k4, k5, k6, k7⟩ := hk
        obtain rfl : sa = sa45 := (k1 (wmem_no rfl)).symm
        obtain rfl : sk = sk46 := (k2).symm
        obtain rfl : sf = sf47 := (k3 (wmem_no rfl)).symm
        obtain rfl : sc = sc48 := (k5 (wmem_no rfl)).symm
        obtain rfl : sz = sz49 := (k6 (wmem_no rfl)).symm
        obtain ⟨vr, rfl, x50, rfl, hl, hu⟩ := hv
        replace h := h x50
        change Rn _ _ _ _ _ _ _ _ _ _ [.int x50, .ref 111, .ref 105] _ _
        refine n_c [.int 1, .int x50, .ref 111, .ref 105] (xo_push (.int 1)) rfl rfl ?_
        replace h := h _ (i_add (x := x50) (y := 1) rfl (show (1 : Int32).toInt = 1 by decide))
        replace h := h (i_addm (x := x50) (y := 1) rfl (show (1 : Int32).toInt = 1 by decide))
        refine n_c [.int (x50 + 1), .ref 111, .ref 105] xo_iadd rfl rfl ?_
        refine n_ld rfl rfl rfl ?_
        replace h := h _ (i_add (x := (x50 + 1)) (y := x2) rfl rfl)
        replace h := h (i_addm (x := (x50 + 1)) (y := x2) rfl rfl)
        refine n_c [.int ((x50 + 1) + x2), .ref 111, .ref 105] xo_iadd rfl rfl ?_
        refine n_row ((x50 + 1) + x2) [.ref 105] (a := 111) hd rfl rfl rfl rfl (fun x53 g1 g2 g3 => ?_)
        replace h := h x53 
        refine n_ctr [.ref 105, .int x53] [] rfl rfl rfl (hc (21, q_21) (List.mem_of_getElem? (i := 1) rfl)) ⟨⟨_, rfl, cmem_ok rfl⟩, vK_int _, trivial⟩ rfl rfl (fun vq sq hv hk => ?_)
        obtain ⟨sa54, sk55, sf56, sc57, sz58⟩ := sq
        obtain ⟨k1, k2, k3, k4, k5, k6, k7⟩ := hk
        obtain rfl : sa = sa54 := (k1 (wmem_no rfl)).symm
        obtain rfl : sk = sk55 := (k2).symm
        obtain rfl : sf = sf56 := (k3 (wmem_no rfl)).symm
        obtain rfl : sc = sc57 := (k5 (wmem_no rfl)).symm
        obtain rfl : sz = sz58 := (k6 (wmem_no rfl)).symm
        cases (show vq = none from hv)
        change Rn _ _ _ _ _ _ _ _ _ _ [] _ _
        refine n_go rfl ?_
        exact k_20_83_39 hd hc  h
    · refine n_sw ?_
      refine ⟨65, by rw [if_neg hx, hy]; rfl, ?_⟩
      replace h := h.2.2.2.2.2.1 hy
      refine n_ld rfl rfl rfl ?_
      refine n_ld rfl rfl rfl ?_
      refine n_ld rfl rfl rfl ?_
      refine n_ctr [.ref 105, .int a1, .int x2] [] rfl rfl rfl (hc (27, q_27) (List.mem_of_getElem? (i := 6) rfl)) ⟨⟨_, rfl, cmem_ok rfl⟩, vK_int _, vK_int _, trivial⟩ rfl rfl (fun vq sq hv hk => ?_)
      obtain ⟨sa59, sk60, sf61, sc62, sz63⟩ := sq
      obtain ⟨k1, k2, k3, k4, k5, k6, k7⟩ := hk
      obtain rfl : sa = sa59 := (k1 (wmem_no rfl)).symm
      obtain rfl : sk = sk60 := (k2).symm
      obtain rfl : sf = sf61 := (k3 (wmem_no rfl)).symm
      obtain rfl : sc = sc62 := (k5 (wmem_no rfl)).symm
      obtain rfl : sz = sz63 := (k6 (wmem_no rfl)).symm
      cases (show vq = none from hv)
      change Rn _ _ _ _ _ _ _ _ _ _ [] _ _
      refine n_go rfl ?_
      exact k_20_83_39 hd hc  h
    · refine n_sw ?_
      refine ⟨70, by rw [if_neg hx, hy]; rfl, ?_⟩
      replace h := h.2.2.2.2.2.2 hy
      refine n_ld rfl rfl rfl ?_
      refine n_ld rfl rfl rfl ?_
      refine n_ld rfl rfl rfl ?_
      refine n_get (v := .ref 39) rfl (hv_C (a := 105) (n := 0) rfl rfl rfl) ?_
      refine n_get (v := .ref 73) rfl (hv_R (a := 39) rfl rfl) ?_
      refine n_ld rfl rfl rfl ?_
      refine n_c [.int 2, .int a1, .ref 73, .int x2, .ref 105] (xo_push (.int 2)) rfl rfl ?_
      replace h := h _ (i_add (x := a1) (y := 2) rfl (show (2 : Int32).toInt = 2 by decide))
      replace h := h (i_addm (x := a1) (y := 2) rfl (show (2 : Int32).toInt = 2 by decide))
      refine n_c [.int (a1 + 2), .ref 73, .int x2, .ref 105] xo_iadd rfl rfl ?_
      refine n_row (a1 + 2) [.int x2, .ref 105] (a := 73) hd rfl rfl rfl rfl (fun x65 g1 g2 g3 => ?_)
      replace h := h x65 (g3 rfl)
      refine n_ctr [.ref 105, .int x2, .int x65] [] rfl rfl rfl (hc (28, q_28) (List.mem_of_getElem? (i := 7) rfl)) ⟨⟨_, rfl, cmem_ok rfl⟩, vK_int _, vK_int _, trivial⟩ rfl rfl (fun vq sq hv hk => ?_)
      obtain ⟨sa66, sk67, sf68, sc69, sz70⟩ := sq
      obtain ⟨k1, k2, k3, k4, k5, k6, k7⟩ := hk
      obtain rfl : sa = sa66 := (k1 (wmem_no rfl)).symm
      obtain rfl : sk = sk67 := (k2).symm
      obtain rfl : sf = sf68 := (k3 (wmem_no rfl)).symm
      obtain rfl : sc = sc69 := (k5 (wmem_no rfl)).symm
      obtain rfl : sz = sz70 := (k6 (wmem_no rfl)).symm
      cases (show vq = none from hv)
      change Rn _ _ _ _ _ _ _ _ _ _ [] _ _
      refine n_go rfl ?_
      exact k_20_83_39 hd hc  h
theorem t_20_39 {d : Nat} (hc : ∀ p ∈ s_w20, CTR (yex (d + 4)) p.1 p.2) {a1 : Int32} {sa : Int32} {sk : Int32} {sf : Int32} {sc : Int32} {sz : Int32} {Q : Option Value → sW → Prop} (h : w_20_0 (fun k => Tt (d + 4) wmL (wk_20 39 k) (wk_20 39 k)) 39 a1 sa sk sf sc sz Q) : Tt (d + 5) wmL (((82, 3), 39, [(105, 5, 39)]) : wW) (((82, 3), 39, [(105, 5, 39)]) : wW) 20 [.ref 105, .int a1] (sa, sk, sf, sc, sz) Q := tt_of (E := xE_20) (L := xL_2) (ml := 3) (ret := none) rfl rfl rfl (k_20_0_39 rfl hc h)
/-! FeatherBench$Machine.go -/
def wk_19 (P : Nat) : Nat → wW
  | _ => (((82, 3), P, [(105, 5, P)]) : wW)
def s_w19 : List (Nat × cSg) := []
def w_19_25 (T : Nat → Nat → List Value → sW → (Option Value → sW → Prop) → Prop) (P : Nat)  (a1 : Int32) (sa : Int32) (sk : Int32) (sf : Int32) (sc : Int32) (sz : Int32) (Q : Option Value → sW → Prop) : Prop :=
  Q none (sa, sk, sf, sc, sz)
def w_19_2 (T : Nat → Nat → List Value → sW → (Option Value → sW → Prop) → Prop) (P : Nat) (R2 : Int32 → Int32 → Int32 → Int32 → Int32 → Int32 → Prop) (a1 : Int32) (sa : Int32) (sk : Int32) (sf : Int32) (sc : Int32) (sz : Int32) (Q : Option Value → sW → Prop) : Prop :=
  (1000000 ≤ a1.toInt → w_19_25 T P  a1 sa sk sf sc sz Q) ∧ (¬ (1000000 ≤ a1.toInt) → ∀ x1 : Int32, (¬ (x1.toInt = 5) → w_19_25 T P  a1 sa sk sf sc sz Q) ∧ (x1.toInt = 5 → ∀ x2 : Int32, ∀ x3 : Int32, (-2147483648 ≤ x2.toInt * 6 ∧ x2.toInt * 6 ≤ 2147483647 → x3.toInt = x2.toInt * 6) → x3.toInt % 16 = (x2.toInt * 6) % 16 → ∀ x4 : Int32, ∀ x5 : Int32, (-2147483648 ≤ x4.toInt + 1 ∧ x4.toInt + 1 ≤ 2147483647 → x5.toInt = x4.toInt + 1) → x5.toInt % 16 = (x4.toInt + 1) % 16 → T 0 20 [.ref 105, .int x3] (sa, sk, sf, sc, sz) (fun v11 (sa6, sk7, sf8, sc9, sz10) => v11 = none ∧ (∀ x12 : Int32, (-2147483648 ≤ a1.toInt + 1 ∧ a1.toInt + 1 ≤ 2147483647 → x12.toInt = a1.toInt + 1) → R2 x12 sa6 sk7 sf8 sc9 sz10))))
def wl_19_2 (T : Nat → Nat → List Value → sW → (Option Value → sW → Prop) → Prop) (P : Nat)  (a1 : Int32) (sa : Int32) (sk : Int32) (sf : Int32) (sc : Int32) (sz : Int32) (Q : Option Value → sW → Prop) : Prop :=
  ∃ (I : Int32 → Int32 → Int32 → Int32 → Int32 → Int32 → Prop) (μ : Int32 → Int32 → Int32 → Int32 → Int32 → Int32 → Nat), I a1 sa sk sf sc sz ∧ ∀ (a1 : Int32) (sa : Int32) (sk : Int32) (sf : Int32) (sc : Int32) (sz : Int32), I a1 sa sk sf sc sz → w_19_2 T P (fun a1' sa' sk' sf' sc' sz' => I a1' sa' sk' sf' sc' sz' ∧ μ a1' sa' sk' sf' sc' sz' < μ a1 sa sk sf sc sz) a1 sa sk sf sc sz Q
def w_19_0 (T : Nat → Nat → List Value → sW → (Option Value → sW → Prop) → Prop) (P : Nat)  (sa : Int32) (sk : Int32) (sf : Int32) (sc : Int32) (sz : Int32) (Q : Option Value → sW → Prop) : Prop :=
  wl_19_2 T P  0 sa sk sf sc sz Q
set_option maxRecDepth 20000 in
theorem k_19_25_3 {d d0 : Nat} (hd : d = d0 + 4) (hc : ∀ p ∈ s_w19, CTR (yex d) p.1 p.2)  {a1 : Int32} {sa : Int32} {sk : Int32} {sf : Int32} {sc : Int32} {sz : Int32} {Q : Option Value → sW → Prop}  (h : w_19_25 (fun k => Tt d wmL (wk_19 3 k) (wk_19 3 k)) 3  a1 sa sk sf sc sz Q) : Rn d wmL (((82, 3), 3, [(105, 5, 3)]) : wW) (((82, 3), 3, [(105, 5, 3)]) : wW) xL_2 3 (none) xE_19 (xE_19.drop 25) [.ref 105, .int a1, .null, .null] [] (sa, sk, sf, sc, sz) Q := by
  unfold w_19_25 at h
  exact n_ret0 rfl h
set_option maxRecDepth 20000 in
theorem k_19_2_3 {d d0 : Nat} (hd : d = d0 + 4) (hc : ∀ p ∈ s_w19, CTR (yex d) p.1 p.2) {R2 : Int32 → Int32 → Int32 → Int32 → Int32 → Int32 → Prop} {a1 : Int32} {sa : Int32} {sk : Int32} {sf : Int32} {sc : Int32} {sz : Int32} {Q : Option Value → sW → Prop} (r2 : ∀ a1 sa sk sf sc sz, R2 a1 sa sk sf sc sz → Rn d wmL (((82, 3), 3, [(105, 5, 3)]) : wW) (((82, 3), 3, [(105, 5, 3)]) : wW) xL_2 3 (none) xE_19 (xE_19.drop 2) [.ref 105, .int a1, .null, .null] [] (sa, sk, sf, sc, sz) Q) (h : w_19_2 (fun k => Tt d wmL (wk_19 3 k) (wk_19 3 k)) 3 R2 a1 sa sk sf sc sz Q) : Rn d wmL (((82, 3), 3, [(105, 5, 3)]) : wW) (((82, 3), 3, [(105, 5, 3)]) : wW) xL_2 3 (none) xE_19 (xE_19.drop 2) [.ref 105, .int a1, .null, .null] [] (sa, sk, sf, sc, sz) Q := by
  unfold w_19_2 at h
  refine n_ld rfl rfl rfl ?_
  refine n_c [.int 1000000, .int a1] (xo_push (.int 1000000)) rfl rfl ?_
  refine n_brP rfl rfl ⟨fun hcn => ?_, fun hcn => ?_⟩
  · replace h := h.1 ((i_le (x := 1000000) (y := a1) (show (1000000 : Int32).toInt = 1000000 by decide) rfl).mp hcn)
    exact k_19_25_3 hd hc  h
  · replace h := h.2 (fun q => hcn ((i_le (x := 1000000) (y := a1) (show (1000000 : Int32).toInt = 1000000 by decide) rfl).mpr q))
    refine n_ld rfl rfl rfl ?_
    refine n_getI (a := 105) rfl rfl rfl (fun x1 hl hu => ?_)
    replace h := h x1
    refine n_c [.int 5, .int x1] (xo_push (.int 5)) rfl rfl ?_
    refine n_brN rfl rfl ⟨fun hcn => ?_, fun hcn => ?_⟩
    · replace h := h.1 (fun q => hcn ((i_eq (x := x1) (y := 5) rfl (show (5 : Int32).toInt = 5 by decide)).mpr q))
      exact k_19_25_3 hd hc  h
    · replace h := h.2 ((i_eq (x := x1) (y := 5) rfl (show (5 : Int32).toInt = 5 by decide)).mp hcn)
      refine n_ld rfl rfl rfl ?_
      refine n_getI (a := 105) rfl rfl rfl (fun x2 hl hu => ?_)
      replace h := h x2
      refine n_c [.int 6, .int x2] (xo_push (.int 6)) rfl rfl ?_
      replace h := h _ (i_mul (x := x2) (y := 6) rfl (show (6 : Int32).toInt = 6 by decide))
      replace h := h (i_mulm (x := x2) (y := 6) rfl (show (6 : Int32).toInt = 6 by decide))
      refine n_c [.int (x2 * 6)] xo_imul rfl rfl ?_
      refine n_st [.ref 105, .int a1, .int (x2 * 6), .null] rfl rfl rfl ?_
      refine n_ld rfl rfl rfl ?_
      refine n_c [.ref 105, .ref 105] xo_dup rfl rfl ?_
      refine n_getI (a := 105) rfl rfl rfl (fun x4 hl hu => ?_)
      replace h := h x4
      refine n_c [.int 1, .int x4, .ref 105] (xo_push (.int 1)) rfl rfl ?_
      replace h := h _ (i_add (x := x4) (y := 1) rfl (show (1 : Int32).toInt = 1 by decide))
      replace h := h (i_addm (x := x4) (y := 1) rfl (show (1 : Int32).toInt = 1 by decide))
      refine n_c [.int (x4 + 1), .ref 105] xo_iadd rfl rfl ?_
      refine n_put (a := 105) (w1 := (((82, 3), 3, [(105, 5, 3)]) : wW)) (s1 := (sa, sk, sf, sc, sz)) rfl rfl rfl rfl (vK_int _) rfl rfl rfl (Or.inr (Or.inl (by decide +kernel))) (ws_no (w := (((82, 3), 3, [(105, 5, 3)]) : wW)) (s := (sa, sk, sf, sc, sz)) (a := 105) (k := 6) rfl) ?_
      refine n_ld rfl rfl rfl ?_
      refine n_ld rfl rfl rfl ?_
      refine n_tt [.ref 105, .int (x2 * 6)] [] rfl rfl rfl rfl (Tt.imp h (fun v11 sq h => ?_))
      obtain ⟨sa6, sk7, sf8, sc9, sz10⟩ := sq
      obtain ⟨rfl, h⟩ := h
      change Rn _ _ _ _ _ _ _ _ _ _ [] _ _
      replace h := h _ (i_add (x := a1) (y := 1) rfl (show (1 : Int32).toInt = 1 by decide))
      refine n_inc [.ref 105, .int (a1 + 1), .int (x2 * 6), .null] rfl rfl rfl rfl ?_
      refine n_go rfl ?_
      refine n_fg 2 ?_
      exact r2 (a1 + 1) sa6 sk7 sf8 sc9 sz10 h
theorem kl_19_2_3 {d d0 : Nat} (hd : d = d0 + 4) (hc : ∀ p ∈ s_w19, CTR (yex d) p.1 p.2)  {a1 : Int32} {sa : Int32} {sk : Int32} {sf : Int32} {sc : Int32} {sz : Int32} {Q : Option Value → sW → Prop}  (h : wl_19_2 (fun k => Tt d wmL (wk_19 3 k) (wk_19 3 k)) 3  a1 sa sk sf sc sz Q) : Rn d wmL (((82, 3), 3, [(105, 5, 3)]) : wW) (((82, 3), 3, [(105, 5, 3)]) : wW) xL_2 3 (none) xE_19 (xE_19.drop 2) [.ref 105, .int a1, .null, .null] [] (sa, sk, sf, sc, sz) Q := by
  obtain ⟨I, μ, h0, h1⟩ := h
  have key : ∀ (n : Nat) (a1 : Int32) (sa : Int32) (sk : Int32) (sf : Int32) (sc : Int32) (sz : Int32), μ a1 sa sk sf sc sz = n → I a1 sa sk sf sc sz → Rn d wmL (((82, 3), 3, [(105, 5, 3)]) : wW) (((82, 3), 3, [(105, 5, 3)]) : wW) xL_2 3 (none) xE_19 (xE_19.drop 2) [.ref 105, .int a1, .null, .null] [] (sa, sk, sf, sc, sz) Q := by
    intro n
    induction n using Nat.strongRecOn with
    | ind n ih =>
      intro a1 sa sk sf sc sz e hI
      exact k_19_2_3 hd hc (fun a1' sa' sk' sf' sc' sz' q => ih _ (by rw [← e]; exact q.2) a1' sa' sk' sf' sc' sz' rfl q.1) (h1 a1 sa sk sf sc sz hI)
  exact key _ a1 sa sk sf sc sz rfl h0
set_option maxRecDepth 20000 in
theorem k_19_0_3 {d d0 : Nat} (hd : d = d0 + 4) (hc : ∀ p ∈ s_w19, CTR (yex d) p.1 p.2)  {sa : Int32} {sk : Int32} {sf : Int32} {sc : Int32} {sz : Int32} {Q : Option Value → sW → Prop}  (h : w_19_0 (fun k => Tt d wmL (wk_19 3 k) (wk_19 3 k)) 3  sa sk sf sc sz Q) : Rn d wmL (((82, 3), 3, [(105, 5, 3)]) : wW) (((82, 3), 3, [(105, 5, 3)]) : wW) xL_2 3 (none) xE_19 (xE_19.drop 0) [.ref 105, .null, .null, .null] [] (sa, sk, sf, sc, sz) Q := by
  unfold w_19_0 at h
  refine n_c [.int 0] (xo_push (.int 0)) rfl rfl ?_
  refine n_st [.ref 105, .int 0, .null, .null] rfl rfl rfl ?_
  exact kl_19_2_3 hd hc  h
theorem t_19_3 {d : Nat} (hc : ∀ p ∈ s_w19, CTR (yex (d + 4)) p.1 p.2) {sa : Int32} {sk : Int32} {sf : Int32} {sc : Int32} {sz : Int32} {Q : Option Value → sW → Prop} (h : w_19_0 (fun k => Tt (d + 4) wmL (wk_19 3 k) (wk_19 3 k)) 3 sa sk sf sc sz Q) : Tt (d + 5) wmL (((82, 3), 3, [(105, 5, 3)]) : wW) (((82, 3), 3, [(105, 5, 3)]) : wW) 19 [.ref 105] (sa, sk, sf, sc, sz) Q := tt_of (E := xE_19) (L := xL_2) (ml := 3) (ret := none) rfl rfl rfl (k_19_0_3 rfl hc h)
set_option maxRecDepth 20000 in
theorem k_19_25_39 {d d0 : Nat} (hd : d = d0 + 4) (hc : ∀ p ∈ s_w19, CTR (yex d) p.1 p.2)  {a1 : Int32} {sa : Int32} {sk : Int32} {sf : Int32} {sc : Int32} {sz : Int32} {Q : Option Value → sW → Prop}  (h : w_19_25 (fun k => Tt d wmL (wk_19 39 k) (wk_19 39 k)) 39  a1 sa sk sf sc sz Q) : Rn d wmL (((82, 3), 39, [(105, 5, 39)]) : wW) (((82, 3), 39, [(105, 5, 39)]) : wW) xL_2 3 (none) xE_19 (xE_19.drop 25) [.ref 105, .int a1, .null, .null] [] (sa, sk, sf, sc, sz) Q := by
  unfold w_19_25 at h
  exact n_ret0 rfl h
set_option maxRecDepth 20000 in
theorem k_19_2_39 {d d0 : Nat} (hd : d = d0 + 4) (hc : ∀ p ∈ s_w19, CTR (yex d) p.1 p.2) {R2 : Int32 → Int32 → Int32 → Int32 → Int32 → Int32 → Prop} {a1 : Int32} {sa : Int32} {sk : Int32} {sf : Int32} {sc : Int32} {sz : Int32} {Q : Option Value → sW → Prop} (r2 : ∀ a1 sa sk sf sc sz, R2 a1 sa sk sf sc sz → Rn d wmL (((82, 3), 39, [(105, 5, 39)]) : wW) (((82, 3), 39, [(105, 5, 39)]) : wW) xL_2 3 (none) xE_19 (xE_19.drop 2) [.ref 105, .int a1, .null, .null] [] (sa, sk, sf, sc, sz) Q) (h : w_19_2 (fun k => Tt d wmL (wk_19 39 k) (wk_19 39 k)) 39 R2 a1 sa sk sf sc sz Q) : Rn d wmL (((82, 3), 39, [(105, 5, 39)]) : wW) (((82, 3), 39, [(105, 5, 39)]) : wW) xL_2 3 (none) xE_19 (xE_19.drop 2) [.ref 105, .int a1, .null, .null] [] (sa, sk, sf, sc, sz) Q := by
  unfold w_19_2 at h
  refine n_ld rfl rfl rfl ?_
  refine n_c [.int 1000000, .int a1] (xo_push (.int 1000000)) rfl rfl ?_
  refine n_brP rfl rfl ⟨fun hcn => ?_, fun hcn => ?_⟩
  · replace h := h.1 ((i_le (x := 1000000) (y := a1) (show (1000000 : Int32).toInt = 1000000 by decide) rfl).mp hcn)
    exact k_19_25_39 hd hc  h
  · replace h := h.2 (fun q => hcn ((i_le (x := 1000000) (y := a1) (show (1000000 : Int32).toInt = 1000000 by decide) rfl).mpr q))
    refine n_ld rfl rfl rfl ?_
    refine n_getI (a := 105) rfl rfl rfl (fun x1 hl hu => ?_)
    replace h := h x1
    refine n_c [.int 5, .int x1] (xo_push (.int 5)) rfl rfl ?_
    refine n_brN rfl rfl ⟨fun hcn => ?_, fun hcn => ?_⟩
    · replace h := h.1 (fun q => hcn ((i_eq (x := x1) (y := 5) rfl (show (5 : Int32).toInt = 5 by decide)).mpr q))
      exact k_19_25_39 hd hc  h
    · replace h := h.2 ((i_eq (x := x1) (y := 5) rfl (show (5 : Int32).toInt = 5 by decide)).mp hcn)
      refine n_ld rfl rfl rfl ?_
      refine n_getI (a := 105) rfl rfl rfl (fun x2 hl hu => ?_)
      replace h := h x2
      refine n_c [.int 6, .int x2] (xo_push (.int 6)) rfl rfl ?_
      replace h := h _ (i_mul (x := x2) (y := 6) rfl (show (6 : Int32).toInt = 6 by decide))
      replace h := h (i_mulm (x := x2) (y := 6) rfl (show (6 : Int32).toInt = 6 by decide))
      refine n_c [.int (x2 * 6)] xo_imul rfl rfl ?_
      refine n_st [.ref 105, .int a1, .int (x2 * 6), .null] rfl rfl rfl ?_
      refine n_ld rfl rfl rfl ?_
      refine n_c [.ref 105, .ref 105] xo_dup rfl rfl ?_
      refine n_getI (a := 105) rfl rfl rfl (fun x4 hl hu => ?_)
      replace h := h x4
      refine n_c [.int 1, .int x4, .ref 105] (xo_push (.int 1)) rfl rfl ?_
      replace h := h _ (i_add (x := x4) (y := 1) rfl (show (1 : Int32).toInt = 1 by decide))
      replace h := h (i_addm (x := x4) (y := 1) rfl (show (1 : Int32).toInt = 1 by decide))
      refine n_c [.int (x4 + 1), .ref 105] xo_iadd rfl rfl ?_
      refine n_put (a := 105) (w1 := (((82, 3), 39, [(105, 5, 39)]) : wW)) (s1 := (sa, sk, sf, sc, sz)) rfl rfl rfl rfl (vK_int _) rfl rfl rfl (Or.inr (Or.inl (by decide +kernel))) (ws_no (w := (((82, 3), 39, [(105, 5, 39)]) : wW)) (s := (sa, sk, sf, sc, sz)) (a := 105) (k := 6) rfl) ?_
      refine n_ld rfl rfl rfl ?_
      refine n_ld rfl rfl rfl ?_
      refine n_tt [.ref 105, .int (x2 * 6)] [] rfl rfl rfl rfl (Tt.imp h (fun v11 sq h => ?_))
      obtain ⟨sa6, sk7, sf8, sc9, sz10⟩ := sq
      obtain ⟨rfl, h⟩ := h
      change Rn _ _ _ _ _ _ _ _ _ _ [] _ _
      replace h := h _ (i_add (x := a1) (y := 1) rfl (show (1 : Int32).toInt = 1 by decide))
      refine n_inc [.ref 105, .int (a1 + 1), .int (x2 * 6), .null] rfl rfl rfl rfl ?_
      refine n_go rfl ?_
      refine n_fg 2 ?_
      exact r2 (a1 + 1) sa6 sk7 sf8 sc9 sz10 h
theorem kl_19_2_39 {d d0 : Nat} (hd : d = d0 + 4) (hc : ∀ p ∈ s_w19, CTR (yex d) p.1 p.2)  {a1 : Int32} {sa : Int32} {sk : Int32} {sf : Int32} {sc : Int32} {sz : Int32} {Q : Option Value → sW → Prop}  (h : wl_19_2 (fun k => Tt d wmL (wk_19 39 k) (wk_19 39 k)) 39  a1 sa sk sf sc sz Q) : Rn d wmL (((82, 3), 39, [(105, 5, 39)]) : wW) (((82, 3), 39, [(105, 5, 39)]) : wW) xL_2 3 (none) xE_19 (xE_19.drop 2) [.ref 105, .int a1, .null, .null] [] (sa, sk, sf, sc, sz) Q := by
  obtain ⟨I, μ, h0, h1⟩ := h
  have key : ∀ (n : Nat) (a1 : Int32) (sa : Int32) (sk : Int32) (sf : Int32) (sc : Int32) (sz : Int32), μ a1 sa sk sf sc sz = n → I a1 sa sk sf sc sz → Rn d wmL (((82, 3), 39, [(105, 5, 39)]) : wW) (((82, 3), 39, [(105, 5, 39)]) : wW) xL_2 3 (none) xE_19 (xE_19.drop 2) [.ref 105, .int a1, .null, .null] [] (sa, sk, sf, sc, sz) Q := by
    intro n
    induction n using Nat.strongRecOn with
    | ind n ih =>
      intro a1 sa sk sf sc sz e hI
      exact k_19_2_39 hd hc (fun a1' sa' sk' sf' sc' sz' q => ih _ (by rw [← e]; exact q.2) a1' sa' sk' sf' sc' sz' rfl q.1) (h1 a1 sa sk sf sc sz hI)
  exact key _ a1 sa sk sf sc sz rfl h0
set_option maxRecDepth 20000 in
theorem k_19_0_39 {d d0 : Nat} (hd : d = d0 + 4) (hc : ∀ p ∈ s_w19, CTR (yex d) p.1 p.2)  {sa : Int32} {sk : Int32} {sf : Int32} {sc : Int32} {sz : Int32} {Q : Option Value → sW → Prop}  (h : w_19_0 (fun k => Tt d wmL (wk_19 39 k) (wk_19 39 k)) 39  sa sk sf sc sz Q) : Rn d wmL (((82, 3), 39, [(105, 5, 39)]) : wW) (((82, 3), 39, [(105, 5, 39)]) : wW) xL_2 3 (none) xE_19 (xE_19.drop 0) [.ref 105, .null, .null, .null] [] (sa, sk, sf, sc, sz) Q := by
  unfold w_19_0 at h
  refine n_c [.int 0] (xo_push (.int 0)) rfl rfl ?_
  refine n_st [.ref 105, .int 0, .null, .null] rfl rfl rfl ?_
  exact kl_19_2_39 hd hc  h
theorem t_19_39 {d : Nat} (hc : ∀ p ∈ s_w19, CTR (yex (d + 4)) p.1 p.2) {sa : Int32} {sk : Int32} {sf : Int32} {sc : Int32} {sz : Int32} {Q : Option Value → sW → Prop} (h : w_19_0 (fun k => Tt (d + 4) wmL (wk_19 39 k) (wk_19 39 k)) 39 sa sk sf sc sz Q) : Tt (d + 5) wmL (((82, 3), 39, [(105, 5, 39)]) : wW) (((82, 3), 39, [(105, 5, 39)]) : wW) 19 [.ref 105] (sa, sk, sf, sc, sz) Q := tt_of (E := xE_19) (L := xL_2) (ml := 3) (ret := none) rfl rfl rfl (k_19_0_39 rfl hc h)
