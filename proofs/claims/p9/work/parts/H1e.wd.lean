/-! ===== the class: what its methods must be given (by wip/p2/cdec.py) ===== -/
def wdL : List (Nat × Nat) := [(0, 4), (0, 5), (0, 6), (1, 2), (1, 3), (1, 4), (1, 5), (1, 6), (1, 7), (4, 10), (4, 12), (4, 13), (4, 14), (6, 1), (6, 2), (7, 0), (7, 1), (7, 2), (7, 3), (7, 4), (7, 5), (7, 6), (10, 1), (10, 2), (100, 2), (101, 1), (101, 2), (200, 14)]
/-! FeatherBench$Told.tellAll -/
def wk_128 (P : Nat) : Nat → wW
  | 0 => (((84, 5), P, [(75, 0, P), (75, 1, (P + 18)), (75, 2, (P + 22))]) : wW)
  | _ => (((84, 5), P, [(83, 1, P), (83, 2, (P + 1)), (75, 0, P), (75, 1, (P + 18)), (75, 2, (P + 22))]) : wW)
def s_w128 : List (Nat × cSg) := [(43, q_43), (130, q_130), (48, q_48), (129, q_129)]
def w_128_56 (T : Nat → Nat → List Value → sW → (Option Value → sW → Prop) → Prop) (P : Nat)  (a2 : Int32) (sa : Int32) (sk : Int32) (sf : Int32) (sc : Int32) (sz : Int32) (Q : Option Value → sW → Prop) : Prop :=
  Q none (sa, sk, sf, sc, sz)
def w_128_54 (T : Nat → Nat → List Value → sW → (Option Value → sW → Prop) → Prop) (P : Nat) (R7 : Int32 → Int32 → Int32 → Int32 → Int32 → Int32 → Prop) (a2 : Int32) (a3 : Int32) (a4 : Int32) (sa : Int32) (sk : Int32) (sf : Int32) (sc : Int32) (sz : Int32) (Q : Option Value → sW → Prop) : Prop :=
  ∀ x1 : Int32, (-2147483648 ≤ a2.toInt + 1 ∧ a2.toInt + 1 ≤ 2147483647 → x1.toInt = a2.toInt + 1) → R7 x1 sa sk sf sc sz
def w_128_38 (T : Nat → Nat → List Value → sW → (Option Value → sW → Prop) → Prop) (P : Nat) (R7 : Int32 → Int32 → Int32 → Int32 → Int32 → Int32 → Prop) (R38 : Int32 → Int32 → Int32 → Int32 → Int32 → Int32 → Int32 → Int32 → Prop) (a2 : Int32) (a3 : Int32) (a4 : Int32) (sa : Int32) (sk : Int32) (sf : Int32) (sc : Int32) (sz : Int32) (Q : Option Value → sW → Prop) : Prop :=
  ∀ x6 : Int32, -5000 ≤ x6.toInt → x6.toInt ≤ 5000 → (x6.toInt ≤ a4.toInt → w_128_54 T P R7 a2 a3 a4 sa sk sf sc sz Q) ∧ (¬ (x6.toInt ≤ a4.toInt) → (¬ (sf.toInt = 0) → w_128_54 T P R7 a2 a3 a4 sa sk sf sc sz Q) ∧ (sf.toInt = 0 → T 1 131 [.ref 83, .int a4] (sa, sk, sf, sc, sz) (fun v12 (sa7, sk8, sf9, sc10, sz11) => v12 = none ∧ (∀ x13 : Int32, (-2147483648 ≤ a4.toInt + 1 ∧ a4.toInt + 1 ≤ 2147483647 → x13.toInt = a4.toInt + 1) → R38 a2 a3 x13 sa7 sk8 sf9 sc10 sz11))))
def wl_128_38 (T : Nat → Nat → List Value → sW → (Option Value → sW → Prop) → Prop) (P : Nat) (R7 : Int32 → Int32 → Int32 → Int32 → Int32 → Int32 → Prop) (a2 : Int32) (a3 : Int32) (a4 : Int32) (sa : Int32) (sk : Int32) (sf : Int32) (sc : Int32) (sz : Int32) (Q : Option Value → sW → Prop) : Prop :=
  ∃ (I : Int32 → Int32 → Int32 → Int32 → Int32 → Int32 → Int32 → Int32 → Prop) (μ : Int32 → Int32 → Int32 → Int32 → Int32 → Int32 → Int32 → Int32 → Nat), I a2 a3 a4 sa sk sf sc sz ∧ ∀ (a2 : Int32) (a3 : Int32) (a4 : Int32) (sa : Int32) (sk : Int32) (sf : Int32) (sc : Int32) (sz : Int32), I a2 a3 a4 sa sk sf sc sz → w_128_38 T P R7 (fun a2' a3' a4' sa' sk' sf' sc' sz' => I a2' a3' a4' sa' sk' sf' sc' sz' ∧ μ a2' a3' a4' sa' sk' sf' sc' sz' < μ a2 a3 a4 sa sk sf sc sz) a2 a3 a4 sa sk sf sc sz Q
def w_128_29 (T : Nat → Nat → List Value → sW → (Option Value → sW → Prop) → Prop) (P : Nat) (R7 : Int32 → Int32 → Int32 → Int32 → Int32 → Int32 → Prop) (a2 : Int32) (a3 : Int32) (sa : Int32) (sk : Int32) (sf : Int32) (sc : Int32) (sz : Int32) (Q : Option Value → sW → Prop) : Prop :=
  ∀ x11 : Int32, -5000 ≤ x11.toInt → x11.toInt ≤ 5000 → wl_128_38 T P R7 a2 a3 x11 sa sk sf sc sz Q
def w_128_7 (T : Nat → Nat → List Value → sW → (Option Value → sW → Prop) → Prop) (P : Nat) (R7 : Int32 → Int32 → Int32 → Int32 → Int32 → Int32 → Prop) (a2 : Int32) (sa : Int32) (sk : Int32) (sf : Int32) (sc : Int32) (sz : Int32) (Q : Option Value → sW → Prop) : Prop :=
  ∀ x6 : Int32, 0 ≤ x6.toInt → x6.toInt ≤ 84 → (x6.toInt ≤ a2.toInt → w_128_56 T P  a2 sa sk sf sc sz Q) ∧ (¬ (x6.toInt ≤ a2.toInt) → (¬ (sf.toInt = 0) → w_128_56 T P  a2 sa sk sf sc sz Q) ∧ (sf.toInt = 0 → ∀ x12 : Int32, -5000 ≤ x12.toInt → x12.toInt ≤ 5000 → (0 ≤ x12.toInt → w_128_29 T P R7 a2 x12 sa sk sf sc sz Q) ∧ (¬ (0 ≤ x12.toInt) → ∀ x13 : Int32, (-2147483648 ≤ (-1) - x12.toInt ∧ (-1) - x12.toInt ≤ 2147483647 → x13.toInt = (-1) - x12.toInt) → (0 ≤ x13.toInt ∧ x13.toInt ≤ 5000) ∧ (∀ sf16 : Int32, (sf16.toInt = 0 → sf.toInt = 0) → w_128_29 T P R7 a2 x12 sa sk sf16 sc sz Q))))
def wl_128_7 (T : Nat → Nat → List Value → sW → (Option Value → sW → Prop) → Prop) (P : Nat)  (a2 : Int32) (sa : Int32) (sk : Int32) (sf : Int32) (sc : Int32) (sz : Int32) (Q : Option Value → sW → Prop) : Prop :=
  ∃ (I : Int32 → Int32 → Int32 → Int32 → Int32 → Int32 → Prop) (μ : Int32 → Int32 → Int32 → Int32 → Int32 → Int32 → Nat), I a2 sa sk sf sc sz ∧ ∀ (a2 : Int32) (sa : Int32) (sk : Int32) (sf : Int32) (sc : Int32) (sz : Int32), I a2 sa sk sf sc sz → w_128_7 T P (fun a2' sa' sk' sf' sc' sz' => I a2' sa' sk' sf' sc' sz' ∧ μ a2' sa' sk' sf' sc' sz' < μ a2 sa sk sf sc sz) a2 sa sk sf sc sz Q
def w_128_0 (T : Nat → Nat → List Value → sW → (Option Value → sW → Prop) → Prop) (P : Nat)  (sa : Int32) (sk : Int32) (sf : Int32) (sc : Int32) (sz : Int32) (Q : Option Value → sW → Prop) : Prop :=
  wl_128_7 T P  0 sa sk sf sc sz Q
set_option maxRecDepth 20000 in
theorem k_128_56_3 {d d0 : Nat} (hd : d = d0 + 4) (hc : ∀ p ∈ s_w128, CTR (yex d) p.1 p.2)  {a2 : Int32} {sa : Int32} {sk : Int32} {sf : Int32} {sc : Int32} {sz : Int32} {Q : Option Value → sW → Prop}  (h : w_128_56 (fun k => Tt d wdL (wk_128 3 k) (wk_128 3 k)) 3  a2 sa sk sf sc sz Q) : Rn d wdL (((84, 5), 3, [(83, 1, 3), (83, 2, 4), (75, 0, 3), (75, 1, 21), (75, 2, 25)]) : wW) (((84, 5), 3, [(83, 1, 3), (83, 2, 4), (75, 0, 3), (75, 1, 21), (75, 2, 25)]) : wW) xL_10 5 (none) xE_128 (xE_128.drop 56) [.ref 83, .ref 3, .int a2, .null, .null, .null, .null] [] (sa, sk, sf, sc, sz) Q := by
  unfold w_128_56 at h
  exact n_ret0 rfl h
set_option maxRecDepth 20000 in
theorem k_128_54_3 {d d0 : Nat} (hd : d = d0 + 4) (hc : ∀ p ∈ s_w128, CTR (yex d) p.1 p.2) {R7 : Int32 → Int32 → Int32 → Int32 → Int32 → Int32 → Prop} {a2 : Int32} {a3 : Int32} {a4 : Int32} {sa : Int32} {sk : Int32} {sf : Int32} {sc : Int32} {sz : Int32} {Q : Option Value → sW → Prop} (r7 : ∀ a2 sa sk sf sc sz, R7 a2 sa sk sf sc sz → Rn d wdL (((84, 5), 3, [(83, 1, 3), (83, 2, 4), (75, 0, 3), (75, 1, 21), (75, 2, 25)]) : wW) (((84, 5), 3, [(83, 1, 3), (83, 2, 4), (75, 0, 3), (75, 1, 21), (75, 2, 25)]) : wW) xL_10 5 (none) xE_128 (xE_128.drop 7) [.ref 83, .ref 3, .int a2, .null, .null, .null, .null] [] (sa, sk, sf, sc, sz) Q) (h : w_128_54 (fun k => Tt d wdL (wk_128 3 k) (wk_128 3 k)) 3 R7 a2 a3 a4 sa sk sf sc sz Q) : Rn d wdL (((84, 5), 3, [(83, 1, 3), (83, 2, 4), (75, 0, 3), (75, 1, 21), (75, 2, 25)]) : wW) (((84, 5), 3, [(83, 1, 3), (83, 2, 4), (75, 0, 3), (75, 1, 21), (75, 2, 25)]) : wW) xL_10 5 (none) xE_128 (xE_128.drop 54) [.ref 83, .ref 3, .int a2, .int a3, .int a4, .null, .null] [] (sa, sk, sf, sc, sz) Q := by
  unfold w_128_54 at h
  replace h := h _ (i_add (x := a2) (y := 1) rfl (show (1 : Int32).toInt = 1 by decide))
  refine n_inc [.ref 83, .ref 3, .int (a2 + 1), .int a3, .int a4, .null, .null] rfl rfl rfl rfl ?_
  refine n_go rfl ?_
  refine n_fg 3 ?_
  refine n_fg 4 ?_
  exact r7 (a2 + 1) sa sk sf sc sz h
set_option maxRecDepth 20000 in
theorem k_128_38_3 {d d0 : Nat} (hd : d = d0 + 4) (hc : ∀ p ∈ s_w128, CTR (yex d) p.1 p.2) {R7 : Int32 → Int32 → Int32 → Int32 → Int32 → Int32 → Prop} {R38 : Int32 → Int32 → Int32 → Int32 → Int32 → Int32 → Int32 → Int32 → Prop} {a2 : Int32} {a3 : Int32} {a4 : Int32} {sa : Int32} {sk : Int32} {sf : Int32} {sc : Int32} {sz : Int32} {Q : Option Value → sW → Prop} (r7 : ∀ a2 sa sk sf sc sz, R7 a2 sa sk sf sc sz → Rn d wdL (((84, 5), 3, [(83, 1, 3), (83, 2, 4), (75, 0, 3), (75, 1, 21), (75, 2, 25)]) : wW) (((84, 5), 3, [(83, 1, 3), (83, 2, 4), (75, 0, 3), (75, 1, 21), (75, 2, 25)]) : wW) xL_10 5 (none) xE_128 (xE_128.drop 7) [.ref 83, .ref 3, .int a2, .null, .null, .null, .null] [] (sa, sk, sf, sc, sz) Q) (r38 : ∀ a2 a3 a4 sa sk sf sc sz, R38 a2 a3 a4 sa sk sf sc sz → Rn d wdL (((84, 5), 3, [(83, 1, 3), (83, 2, 4), (75, 0, 3), (75, 1, 21), (75, 2, 25)]) : wW) (((84, 5), 3, [(83, 1, 3), (83, 2, 4), (75, 0, 3), (75, 1, 21), (75, 2, 25)]) : wW) xL_10 5 (none) xE_128 (xE_128.drop 38) [.ref 83, .ref 3, .int a2, .int a3, .int a4, .null, .null] [] (sa, sk, sf, sc, sz) Q) (h : w_128_38 (fun k => Tt d wdL (wk_128 3 k) (wk_128 3 k)) 3 R7 R38 a2 a3 a4 sa sk sf sc sz Q) : Rn d wdL (((84, 5), 3, [(83, 1, 3), (83, 2, 4), (75, 0, 3), (75, 1, 21), (75, 2, 25)]) : wW) (((84, 5), 3, [(83, 1, 3), (83, 2, 4), (75, 0, 3), (75, 1, 21), (75, 2, 25)]) : wW) xL_10 5 (none) xE_128 (xE_128.drop 38) [.ref 83, .ref 3, .int a2, .int a3, .int a4, .null, .null] [] (sa, sk, sf, sc, sz) Q := by
  unfold w_128_38 at h
  refine n_ld rfl rfl rfl ?_
  refine n_ld rfl rfl rfl ?_
  refine n_get (v := .ref 3) rfl (hv_C (a := 83) (n := 0) rfl rfl rfl) ?_
  refine n_ld rfl rfl rfl ?_
  refine n_c [.int 2, .int a2, .ref 3, .int a4] (xo_push (.int 2)) rfl rfl ?_
  refine n_ctr [.ref 3, .int a2, .int 2] [.int a4] rfl rfl rfl (hc (43, q_43) (List.mem_of_getElem? (i := 0) rfl)) ⟨⟨_, rfl, cmem_ok rfl⟩, vK_int _, vK_int _, trivial⟩ rfl rfl (fun vq sq hv hk => ?_)
  obtain ⟨sa1, sk2, sf3, sc4, sz5⟩ := sq
  obtain ⟨k1, k2, k3, k4, k5, k6, k7⟩ := hk
  obtain rfl : sa = sa1 := (k1 (wmem_no rfl)).symm
  obtain rfl : sk = sk2 := (k2).symm
  obtain rfl : sf = sf3 := (k3 (wmem_no rfl)).symm
  obtain rfl : sc = sc4 := (k5 (wmem_no rfl)).symm
  obtain rfl : sz = sz5 := (k6 (wmem_no rfl)).symm
  obtain ⟨vr, rfl, x6, rfl, hl, hu⟩ := hv
  replace h := h x6 hl hu
  change Rn _ _ _ _ _ _ _ _ _ _ [.int x6, .int a4] _ _
  refine n_brP rfl rfl ⟨fun hcn => ?_, fun hcn => ?_⟩
  · replace h := h.1 ((i_le (x := x6) (y := a4) rfl rfl).mp hcn)
    exact k_128_54_3 hd hc r7 h
  · replace h := h.2 (fun q => hcn ((i_le (x := x6) (y := a4) rfl rfl).mpr q))
    refine n_ld rfl rfl rfl ?_
    refine n_get (v := .ref 3) rfl (hv_C (a := 83) (n := 0) rfl rfl rfl) ?_
    refine n_get (v := .int sf) rfl (hv_f (a := 3) rfl rfl (fun _ _ hw => hw.1.2.2.1)) ?_
    refine n_brN rfl rfl ⟨fun hcn => ?_, fun hcn => ?_⟩
    · replace h := h.1 (fun q => hcn ((i_eq (x := sf) (y := 0) rfl (show (0 : Int32).toInt = 0 by decide)).mpr q))
      exact k_128_54_3 hd hc r7 h
    · replace h := h.2 ((i_eq (x := sf) (y := 0) rfl (show (0 : Int32).toInt = 0 by decide)).mp hcn)
      refine n_ld rfl rfl rfl ?_
      refine n_ld rfl rfl rfl ?_
      refine n_tt [.ref 83, .int a4] [] rfl rfl rfl rfl (Tt.imp h (fun v12 sq h => ?_))
      obtain ⟨sa7, sk8, sf9, sc10, sz11⟩ := sq
      obtain ⟨rfl, h⟩ := h
      change Rn _ _ _ _ _ _ _ _ _ _ [] _ _
      replace h := h _ (i_add (x := a4) (y := 1) rfl (show (1 : Int32).toInt = 1 by decide))
      refine n_inc [.ref 83, .ref 3, .int a2, .int a3, .int (a4 + 1), .null, .null] rfl rfl rfl rfl ?_
      refine n_go rfl ?_
      exact r38 a2 a3 (a4 + 1) sa7 sk8 sf9 sc10 sz11 h
theorem kl_128_38_3 {d d0 : Nat} (hd : d = d0 + 4) (hc : ∀ p ∈ s_w128, CTR (yex d) p.1 p.2) {R7 : Int32 → Int32 → Int32 → Int32 → Int32 → Int32 → Prop} {a2 : Int32} {a3 : Int32} {a4 : Int32} {sa : Int32} {sk : Int32} {sf : Int32} {sc : Int32} {sz : Int32} {Q : Option Value → sW → Prop} (r7 : ∀ a2 sa sk sf sc sz, R7 a2 sa sk sf sc sz → Rn d wdL (((84, 5), 3, [(83, 1, 3), (83, 2, 4), (75, 0, 3), (75, 1, 21), (75, 2, 25)]) : wW) (((84, 5), 3, [(83, 1, 3), (83, 2, 4), (75, 0, 3), (75, 1, 21), (75, 2, 25)]) : wW) xL_10 5 (none) xE_128 (xE_128.drop 7) [.ref 83, .ref 3, .int a2, .null, .null, .null, .null] [] (sa, sk, sf, sc, sz) Q) (h : wl_128_38 (fun k => Tt d wdL (wk_128 3 k) (wk_128 3 k)) 3 R7 a2 a3 a4 sa sk sf sc sz Q) : Rn d wdL (((84, 5), 3, [(83, 1, 3), (83, 2, 4), (75, 0, 3), (75, 1, 21), (75, 2, 25)]) : wW) (((84, 5), 3, [(83, 1, 3), (83, 2, 4), (75, 0, 3), (75, 1, 21), (75, 2, 25)]) : wW) xL_10 5 (none) xE_128 (xE_128.drop 38) [.ref 83, .ref 3, .int a2, .int a3, .int a4, .null, .null] [] (sa, sk, sf, sc, sz) Q := by
  obtain ⟨I, μ, h0, h1⟩ := h
  have key : ∀ (n : Nat) (a2 : Int32) (a3 : Int32) (a4 : Int32) (sa : Int32) (sk : Int32) (sf : Int32) (sc : Int32) (sz : Int32), μ a2 a3 a4 sa sk sf sc sz = n → I a2 a3 a4 sa sk sf sc sz → Rn d wdL (((84, 5), 3, [(83, 1, 3), (83, 2, 4), (75, 0, 3), (75, 1, 21), (75, 2, 25)]) : wW) (((84, 5), 3, [(83, 1, 3), (83, 2, 4), (75, 0, 3), (75, 1, 21), (75, 2, 25)]) : wW) xL_10 5 (none) xE_128 (xE_128.drop 38) [.ref 83, .ref 3, .int a2, .int a3, .int a4, .null, .null] [] (sa, sk, sf, sc, sz) Q := by
    intro n
    induction n using Nat.strongRecOn with
    | ind n ih =>
      intro a2 a3 a4 sa sk sf sc sz e hI
      exact k_128_38_3 hd hc r7 (fun a2' a3' a4' sa' sk' sf' sc' sz' q => ih _ (by rw [← e]; exact q.2) a2' a3' a4' sa' sk' sf' sc' sz' rfl q.1) (h1 a2 a3 a4 sa sk sf sc sz hI)
  exact key _ a2 a3 a4 sa sk sf sc sz rfl h0
set_option maxRecDepth 20000 in
theorem k_128_29_3 {d d0 : Nat} (hd : d = d0 + 4) (hc : ∀ p ∈ s_w128, CTR (yex d) p.1 p.2) {R7 : Int32 → Int32 → Int32 → Int32 → Int32 → Int32 → Prop} {a2 : Int32} {a3 : Int32} {sa : Int32} {sk : Int32} {sf : Int32} {sc : Int32} {sz : Int32} {Q : Option Value → sW → Prop} (r7 : ∀ a2 sa sk sf sc sz, R7 a2 sa sk sf sc sz → Rn d wdL (((84, 5), 3, [(83, 1, 3), (83, 2, 4), (75, 0, 3), (75, 1, 21), (75, 2, 25)]) : wW) (((84, 5), 3, [(83, 1, 3), (83, 2, 4), (75, 0, 3), (75, 1, 21), (75, 2, 25)]) : wW) xL_10 5 (none) xE_128 (xE_128.drop 7) [.ref 83, .ref 3, .int a2, .null, .null, .null, .null] [] (sa, sk, sf, sc, sz) Q) (h : w_128_29 (fun k => Tt d wdL (wk_128 3 k) (wk_128 3 k)) 3 R7 a2 a3 sa sk sf sc sz Q) : Rn d wdL (((84, 5), 3, [(83, 1, 3), (83, 2, 4), (75, 0, 3), (75, 1, 21), (75, 2, 25)]) : wW) (((84, 5), 3, [(83, 1, 3), (83, 2, 4), (75, 0, 3), (75, 1, 21), (75, 2, 25)]) : wW) xL_10 5 (none) xE_128 (xE_128.drop 29) [.ref 83, .ref 3, .int a2, .int a3, .null, .null, .null] [] (sa, sk, sf, sc, sz) Q := by
  unfold w_128_29 at h
  refine n_ld rfl rfl rfl ?_
  refine n_ld rfl rfl rfl ?_
  refine n_ctr [.ref 83, .int a3] [] rfl rfl rfl (hc (130, q_130) (List.mem_of_getElem? (i := 1) rfl)) ⟨⟨_, rfl, cmem_ok rfl⟩, vK_int _, trivial⟩ rfl rfl (fun vq sq hv hk => ?_)
  obtain ⟨sa1, sk2, sf3, sc4, sz5⟩ := sq
  obtain ⟨k1, k2, k3, k4, k5, k6, k7⟩ := hk
  obtain rfl : sa = sa1 := (k1 (wmem_no rfl)).symm
  obtain rfl : sk = sk2 := (k2).symm
  obtain rfl : sf = sf3 := (k3 (wmem_no rfl)).symm
  obtain rfl : sc = sc4 := (k5 (wmem_no rfl)).symm
  obtain rfl : sz = sz5 := (k6 (wmem_no rfl)).symm
  cases (show vq = none from hv)
  change Rn _ _ _ _ _ _ _ _ _ _ [] _ _
  refine n_ld rfl rfl rfl ?_
  refine n_get (v := .ref 3) rfl (hv_C (a := 83) (n := 0) rfl rfl rfl) ?_
  refine n_ld rfl rfl rfl ?_
  refine n_c [.int 1, .int a2, .ref 3] (xo_push (.int 1)) rfl rfl ?_
  refine n_ctr [.ref 3, .int a2, .int 1] [] rfl rfl rfl (hc (43, q_43) (List.mem_of_getElem? (i := 0) rfl)) ⟨⟨_, rfl, cmem_ok rfl⟩, vK_int _, vK_int _, trivial⟩ rfl rfl (fun vq sq hv hk => ?_)
  obtain ⟨sa6, sk7, sf8, sc9, sz10⟩ := sq
  obtain ⟨k1, k2, k3, k4, k5, k6, k7⟩ := hk
  obtain rfl : sa = sa6 := (k1 (wmem_no rfl)).symm
  obtain rfl : sk = sk7 := (k2).symm
  obtain rfl : sf = sf8 := (k3 (wmem_no rfl)).symm
  obtain rfl : sc = sc9 := (k5 (wmem_no rfl)).symm
  obtain rfl : sz = sz10 := (k6 (wmem_no rfl)).symm
  obtain ⟨vr, rfl, x11, rfl, hl, hu⟩ := hv
  replace h := h x11 hl hu
  change Rn _ _ _ _ _ _ _ _ _ _ [.int x11] _ _
  refine n_st [.ref 83, .ref 3, .int a2, .int a3, .int x11, .null, .null] rfl rfl rfl ?_
  exact kl_128_38_3 hd hc r7 h
set_option maxRecDepth 20000 in
theorem k_128_7_3 {d d0 : Nat} (hd : d = d0 + 4) (hc : ∀ p ∈ s_w128, CTR (yex d) p.1 p.2) {R7 : Int32 → Int32 → Int32 → Int32 → Int32 → Int32 → Prop} {a2 : Int32} {sa : Int32} {sk : Int32} {sf : Int32} {sc : Int32} {sz : Int32} {Q : Option Value → sW → Prop} (r7 : ∀ a2 sa sk sf sc sz, R7 a2 sa sk sf sc sz → Rn d wdL (((84, 5), 3, [(83, 1, 3), (83, 2, 4), (75, 0, 3), (75, 1, 21), (75, 2, 25)]) : wW) (((84, 5), 3, [(83, 1, 3), (83, 2, 4), (75, 0, 3), (75, 1, 21), (75, 2, 25)]) : wW) xL_10 5 (none) xE_128 (xE_128.drop 7) [.ref 83, .ref 3, .int a2, .null, .null, .null, .null] [] (sa, sk, sf, sc, sz) Q) (h : w_128_7 (fun k => Tt d wdL (wk_128 3 k) (wk_128 3 k)) 3 R7 a2 sa sk sf sc sz Q) : Rn d wdL (((84, 5), 3, [(83, 1, 3), (83, 2, 4), (75, 0, 3), (75, 1, 21), (75, 2, 25)]) : wW) (((84, 5), 3, [(83, 1, 3), (83, 2, 4), (75, 0, 3), (75, 1, 21), (75, 2, 25)]) : wW) xL_10 5 (none) xE_128 (xE_128.drop 7) [.ref 83, .ref 3, .int a2, .null, .null, .null, .null] [] (sa, sk, sf, sc, sz) Q := by
  unfold w_128_7 at h
  refine n_ld rfl rfl rfl ?_
  refine n_ld rfl rfl rfl ?_
  refine n_get (v := .ref 3) rfl (hv_C (a := 83) (n := 0) rfl rfl rfl) ?_
  refine n_ctr [.ref 3] [.int a2] rfl rfl rfl (hc (48, q_48) (List.mem_of_getElem? (i := 2) rfl)) ⟨⟨_, rfl, cmem_ok rfl⟩, trivial⟩ rfl rfl (fun vq sq hv hk => ?_)
  obtain ⟨sa1, sk2, sf3, sc4, sz5⟩ := sq
  obtain ⟨k1, k2, k3, k4, k5, k6, k7⟩ := hk
  obtain rfl : sa = sa1 := (k1 (wmem_no rfl)).symm
  obtain rfl : sk = sk2 := (k2).symm
  obtain rfl : sf = sf3 := (k3 (wmem_no rfl)).symm
  obtain rfl : sc = sc4 := (k5 (wmem_no rfl)).symm
  obtain rfl : sz = sz5 := (k6 (wmem_no rfl)).symm
  obtain ⟨vr, rfl, x6, rfl, hl, hu⟩ := hv
  replace h := h x6 hl hu
  change Rn _ _ _ _ _ _ _ _ _ _ [.int x6, .int a2] _ _
  refine n_brP rfl rfl ⟨fun hcn => ?_, fun hcn => ?_⟩
  · replace h := h.1 ((i_le (x := x6) (y := a2) rfl rfl).mp hcn)
    exact k_128_56_3 hd hc  h
  · replace h := h.2 (fun q => hcn ((i_le (x := x6) (y := a2) rfl rfl).mpr q))
    refine n_ld rfl rfl rfl ?_
    refine n_get (v := .ref 3) rfl (hv_C (a := 83) (n := 0) rfl rfl rfl) ?_
    refine n_get (v := .int sf) rfl (hv_f (a := 3) rfl rfl (fun _ _ hw => hw.1.2.2.1)) ?_
    refine n_brN rfl rfl ⟨fun hcn => ?_, fun hcn => ?_⟩
    · replace h := h.1 (fun q => hcn ((i_eq (x := sf) (y := 0) rfl (show (0 : Int32).toInt = 0 by decide)).mpr q))
      exact k_128_56_3 hd hc  h
    · replace h := h.2 ((i_eq (x := sf) (y := 0) rfl (show (0 : Int32).toInt = 0 by decide)).mp hcn)
      refine n_ld rfl rfl rfl ?_
      refine n_get (v := .ref 3) rfl (hv_C (a := 83) (n := 0) rfl rfl rfl) ?_
      refine n_ld rfl rfl rfl ?_
      refine n_c [.int 0, .int a2, .ref 3] (xo_push (.int 0)) rfl rfl ?_
      refine n_ctr [.ref 3, .int a2, .int 0] [] rfl rfl rfl (hc (43, q_43) (List.mem_of_getElem? (i := 0) rfl)) ⟨⟨_, rfl, cmem_ok rfl⟩, vK_int _, vK_int _, trivial⟩ rfl rfl (fun vq sq hv hk => ?_)
      obtain ⟨sa7, sk8, sf9, sc10, sz11⟩ := sq
      obtain ⟨k1, k2, k3, k4, k5, k6, k7⟩ := hk
      obtain rfl : sa = sa7 := (k1 (wmem_no rfl)).symm
      obtain rfl : sk = sk8 := (k2).symm
      obtain rfl : sf = sf9 := (k3 (wmem_no rfl)).symm
      obtain rfl : sc = sc10 := (k5 (wmem_no rfl)).symm
      obtain rfl : sz = sz11 := (k6 (wmem_no rfl)).symm
      obtain ⟨vr, rfl, x12, rfl, hl, hu⟩ := hv
      replace h := h x12 hl hu
      change Rn _ _ _ _ _ _ _ _ _ _ [.int x12] _ _
      refine n_st [.ref 83, .ref 3, .int a2, .int x12, .null, .null, .null] rfl rfl rfl ?_
      refine n_ld rfl rfl rfl ?_
      refine n_brP rfl rfl ⟨fun hcn => ?_, fun hcn => ?_⟩
      · replace h := h.1 ((i_le (x := 0) (y := x12) (show (0 : Int32).toInt = 0 by decide) rfl).mp hcn)
        exact k_128_29_3 hd hc r7 h
      · replace h := h.2 (fun q => hcn ((i_le (x := 0) (y := x12) (show (0 : Int32).toInt = 0 by decide) rfl).mpr q))
        refine n_ld rfl rfl rfl ?_
        refine n_c [.int (-1), .ref 83] (xo_push (.int (-1))) rfl rfl ?_
        refine n_ld rfl rfl rfl ?_
        replace h := h _ (i_sub (x := (-1)) (y := x12) (show ((-1) : Int32).toInt = (-1) by decide) rfl)
        refine n_c [.int ((-1) - x12), .ref 83] xo_isub rfl rfl ?_
        refine n_ctr [.ref 83, .int ((-1) - x12)] [] rfl rfl rfl (hc (129, q_129) (List.mem_of_getElem? (i := 3) rfl)) ⟨⟨_, rfl, cmem_ok rfl⟩, ⟨_, rfl, h.1.1, h.1.2⟩, trivial⟩ rfl rfl (fun vq sq hv hk => ?_)
        replace h := h.2
        obtain ⟨sa14, sk15, sf16, sc17, sz18⟩ := sq
        obtain ⟨k1, k2, k3, k4, k5, k6, k7⟩ := hk
        obtain rfl : sa = sa14 := (k1 (wmem_no rfl)).symm
        obtain rfl : sk = sk15 := (k2).symm
        replace h := h sf16 (k4 (wmem_no rfl))
        obtain rfl : sc = sc17 := (k5 (wmem_no rfl)).symm
        obtain rfl : sz = sz18 := (k6 (wmem_no rfl)).symm
        cases (show vq = none from hv)
        change Rn _ _ _ _ _ _ _ _ _ _ [] _ _
        exact k_128_29_3 hd hc r7 h
theorem kl_128_7_3 {d d0 : Nat} (hd : d = d0 + 4) (hc : ∀ p ∈ s_w128, CTR (yex d) p.1 p.2)  {a2 : Int32} {sa : Int32} {sk : Int32} {sf : Int32} {sc : Int32} {sz : Int32} {Q : Option Value → sW → Prop}  (h : wl_128_7 (fun k => Tt d wdL (wk_128 3 k) (wk_128 3 k)) 3  a2 sa sk sf sc sz Q) : Rn d wdL (((84, 5), 3, [(83, 1, 3), (83, 2, 4), (75, 0, 3), (75, 1, 21), (75, 2, 25)]) : wW) (((84, 5), 3, [(83, 1, 3), (83, 2, 4), (75, 0, 3), (75, 1, 21), (75, 2, 25)]) : wW) xL_10 5 (none) xE_128 (xE_128.drop 7) [.ref 83, .ref 3, .int a2, .null, .null, .null, .null] [] (sa, sk, sf, sc, sz) Q := by
  obtain ⟨I, μ, h0, h1⟩ := h
  have key : ∀ (n : Nat) (a2 : Int32) (sa : Int32) (sk : Int32) (sf : Int32) (sc : Int32) (sz : Int32), μ a2 sa sk sf sc sz = n → I a2 sa sk sf sc sz → Rn d wdL (((84, 5), 3, [(83, 1, 3), (83, 2, 4), (75, 0, 3), (75, 1, 21), (75, 2, 25)]) : wW) (((84, 5), 3, [(83, 1, 3), (83, 2, 4), (75, 0, 3), (75, 1, 21), (75, 2, 25)]) : wW) xL_10 5 (none) xE_128 (xE_128.drop 7) [.ref 83, .ref 3, .int a2, .null, .null, .null, .null] [] (sa, sk, sf, sc, sz) Q := by
    intro n
    induction n using Nat.strongRecOn with
    | ind n ih =>
      intro a2 sa sk sf sc sz e hI
      exact k_128_7_3 hd hc (fun a2' sa' sk' sf' sc' sz' q => ih _ (by rw [← e]; exact q.2) a2' sa' sk' sf' sc' sz' rfl q.1) (h1 a2 sa sk sf sc sz hI)
  exact key _ a2 sa sk sf sc sz rfl h0
set_option maxRecDepth 20000 in
theorem k_128_0_3 {d d0 : Nat} (hd : d = d0 + 4) (hc : ∀ p ∈ s_w128, CTR (yex d) p.1 p.2)  {sa : Int32} {sk : Int32} {sf : Int32} {sc : Int32} {sz : Int32} {Q : Option Value → sW → Prop}  (h : w_128_0 (fun k => Tt d wdL (wk_128 3 k) (wk_128 3 k)) 3  sa sk sf sc sz Q) : Rn d wdL (((84, 5), 3, [(75, 0, 3), (75, 1, 21), (75, 2, 25)]) : wW) (((84, 5), 3, [(83, 1, 3), (83, 2, 4), (75, 0, 3), (75, 1, 21), (75, 2, 25)]) : wW) xL_10 5 (none) xE_128 (xE_128.drop 0) [.ref 83, .ref 3, .null, .null, .null, .null, .null] [] (sa, sk, sf, sc, sz) Q := by
  unfold w_128_0 at h
  refine n_ld rfl rfl rfl ?_
  refine n_ld rfl rfl rfl ?_
  refine n_ld rfl rfl rfl ?_
  refine n_get (v := .ref 4) rfl (hv_R (a := 3) rfl rfl) ?_
  refine n_tt [.ref 83, .ref 3, .ref 4] [] (w1 := (((84, 5), 3, [(83, 1, 3), (83, 2, 4), (75, 0, 3), (75, 1, 21), (75, 2, 25)]) : wW)) rfl rfl rfl rfl (Tt.imp (u_121 hd (P := 3) (T := 4) rfl rfl rfl) (fun v1 s1 hq => ?_))
  obtain ⟨rfl, rfl⟩ := hq
  change Rn _ _ _ _ _ _ _ _ _ _ [] _ _
  refine n_c [.int 0] (xo_push (.int 0)) rfl rfl ?_
  refine n_st [.ref 83, .ref 3, .int 0, .null, .null, .null, .null] rfl rfl rfl ?_
  exact kl_128_7_3 hd hc  h
theorem t_128_3 {d : Nat} (hc : ∀ p ∈ s_w128, CTR (yex (d + 4)) p.1 p.2) {sa : Int32} {sk : Int32} {sf : Int32} {sc : Int32} {sz : Int32} {Q : Option Value → sW → Prop} (h : w_128_0 (fun k => Tt (d + 4) wdL (wk_128 3 k) (wk_128 3 k)) 3 sa sk sf sc sz Q) : Tt (d + 5) wdL (((84, 5), 3, [(75, 0, 3), (75, 1, 21), (75, 2, 25)]) : wW) (((84, 5), 3, [(83, 1, 3), (83, 2, 4), (75, 0, 3), (75, 1, 21), (75, 2, 25)]) : wW) 128 [.ref 83, .ref 3] (sa, sk, sf, sc, sz) Q := tt_of (E := xE_128) (L := xL_10) (ml := 5) (ret := none) rfl rfl rfl (k_128_0_3 rfl hc h)
set_option maxRecDepth 20000 in
theorem k_128_56_39 {d d0 : Nat} (hd : d = d0 + 4) (hc : ∀ p ∈ s_w128, CTR (yex d) p.1 p.2)  {a2 : Int32} {sa : Int32} {sk : Int32} {sf : Int32} {sc : Int32} {sz : Int32} {Q : Option Value → sW → Prop}  (h : w_128_56 (fun k => Tt d wdL (wk_128 39 k) (wk_128 39 k)) 39  a2 sa sk sf sc sz Q) : Rn d wdL (((84, 5), 39, [(83, 1, 39), (83, 2, 40), (75, 0, 39), (75, 1, 57), (75, 2, 61)]) : wW) (((84, 5), 39, [(83, 1, 39), (83, 2, 40), (75, 0, 39), (75, 1, 57), (75, 2, 61)]) : wW) xL_10 5 (none) xE_128 (xE_128.drop 56) [.ref 83, .ref 39, .int a2, .null, .null, .null, .null] [] (sa, sk, sf, sc, sz) Q := by
  unfold w_128_56 at h
  exact n_ret0 rfl h
set_option maxRecDepth 20000 in
theorem k_128_54_39 {d d0 : Nat} (hd : d = d0 + 4) (hc : ∀ p ∈ s_w128, CTR (yex d) p.1 p.2) {R7 : Int32 → Int32 → Int32 → Int32 → Int32 → Int32 → Prop} {a2 : Int32} {a3 : Int32} {a4 : Int32} {sa : Int32} {sk : Int32} {sf : Int32} {sc : Int32} {sz : Int32} {Q : Option Value → sW → Prop} (r7 : ∀ a2 sa sk sf sc sz, R7 a2 sa sk sf sc sz → Rn d wdL (((84, 5), 39, [(83, 1, 39), (83, 2, 40), (75, 0, 39), (75, 1, 57), (75, 2, 61)]) : wW) (((84, 5), 39, [(83, 1, 39), (83, 2, 40), (75, 0, 39), (75, 1, 57), (75, 2, 61)]) : wW) xL_10 5 (none) xE_128 (xE_128.drop 7) [.ref 83, .ref 39, .int a2, .null, .null, .null, .null] [] (sa, sk, sf, sc, sz) Q) (h : w_128_54 (fun k => Tt d wdL (wk_128 39 k) (wk_128 39 k)) 39 R7 a2 a3 a4 sa sk sf sc sz Q) : Rn d wdL (((84, 5), 39, [(83, 1, 39), (83, 2, 40), (75, 0, 39), (75, 1, 57), (75, 2, 61)]) : wW) (((84, 5), 39, [(83, 1, 39), (83, 2, 40), (75, 0, 39), (75, 1, 57), (75, 2, 61)]) : wW) xL_10 5 (none) xE_128 (xE_128.drop 54) [.ref 83, .ref 39, .int a2, .int a3, .int a4, .null, .null] [] (sa, sk, sf, sc, sz) Q := by
  unfold w_128_54 at h
  replace h := h _ (i_add (x := a2) (y := 1) rfl (show (1 : Int32).toInt = 1 by decide))
  refine n_inc [.ref 83, .ref 39, .int (a2 + 1), .int a3, .int a4, .null, .null] rfl rfl rfl rfl ?_
  refine n_go rfl ?_
  refine n_fg 3 ?_
  refine n_fg 4 ?_
  exact r7 (a2 + 1) sa sk sf sc sz h
set_option maxRecDepth 20000 in
theorem k_128_38_39 {d d0 : Nat} (hd : d = d0 + 4) (hc : ∀ p ∈ s_w128, CTR (yex d) p.1 p.2) {R7 : Int32 → Int32 → Int32 → Int32 → Int32 → Int32 → Prop} {R38 : Int32 → Int32 → Int32 → Int32 → Int32 → Int32 → Int32 → Int32 → Prop} {a2 : Int32} {a3 : Int32} {a4 : Int32} {sa : Int32} {sk : Int32} {sf : Int32} {sc : Int32} {sz : Int32} {Q : Option Value → sW → Prop} (r7 : ∀ a2 sa sk sf sc sz, R7 a2 sa sk sf sc sz → Rn d wdL (((84, 5), 39, [(83, 1, 39), (83, 2, 40), (75, 0, 39), (75, 1, 57), (75, 2, 61)]) : wW) (((84, 5), 39, [(83, 1, 39), (83, 2, 40), (75, 0, 39), (75, 1, 57), (75, 2, 61)]) : wW) xL_10 5 (none) xE_128 (xE_128.drop 7) [.ref 83, .ref 39, .int a2, .null, .null, .null, .null] [] (sa, sk, sf, sc, sz) Q) (r38 : ∀ a2 a3 a4 sa sk sf sc sz, R38 a2 a3 a4 sa sk sf sc sz → Rn d wdL (((84, 5), 39, [(83, 1, 39), (83, 2, 40), (75, 0, 39), (75, 1, 57), (75, 2, 61)]) : wW) (((84, 5), 39, [(83, 1, 39), (83, 2, 40), (75, 0, 39), (75, 1, 57), (75, 2, 61)]) : wW) xL_10 5 (none) xE_128 (xE_128.drop 38) [.ref 83, .ref 39, .int a2, .int a3, .int a4, .null, .null] [] (sa, sk, sf, sc, sz) Q) (h : w_128_38 (fun k => Tt d wdL (wk_128 39 k) (wk_128 39 k)) 39 R7 R38 a2 a3 a4 sa sk sf sc sz Q) : Rn d wdL (((84, 5), 39, [(83, 1, 39), (83, 2, 40), (75, 0, 39), (75, 1, 57), (75, 2, 61)]) : wW) (((84, 5), 39, [(83, 1, 39), (83, 2, 40), (75, 0, 39), (75, 1, 57), (75, 2, 61)]) : wW) xL_10 5 (none) xE_128 (xE_128.drop 38) [.ref 83, .ref 39, .int a2, .int a3, .int a4, .null, .null] [] (sa, sk, sf, sc, sz) Q := by
  unfold w_128_38 at h
  refine n_ld rfl rfl rfl ?_
  refine n_ld rfl rfl rfl ?_
  refine n_get (v := .ref 39) rfl (hv_C (a := 83) (n := 0) rfl rfl rfl) ?_
  refine n_ld rfl rfl rfl ?_
  refine n_c [.int 2, .int a2, .ref 39, .int a4] (xo_push (.int 2)) rfl rfl ?_
  refine n_ctr [.ref 39, .int a2, .int 2] [.int a4] rfl rfl rfl (hc (43, q_43) (List.mem_of_getElem? (i := 0) rfl)) ⟨⟨_, rfl, cmem_ok rfl⟩, vK_int _, vK_int _, trivial⟩ rfl rfl (fun vq sq hv hk => ?_)
  obtain ⟨sa1, sk2, sf3, sc4, sz5⟩ := sq
  obtain ⟨k1, k2, k3, k4, k5, k6, k7⟩ := hk
  obtain rfl : sa = sa1 := (k1 (wmem_no rfl)).symm
  obtain rfl : sk = sk2 := (k2).symm
  obtain rfl : sf = sf3 := (k3 (wmem_no rfl)).symm
  obtain rfl : sc = sc4 := (k5 (wmem_no rfl)).symm
  obtain rfl : sz = sz5 := (k6 (wmem_no rfl)).symm
  obtain ⟨vr, rfl, x6, rfl, hl, hu⟩ := hv
  replace h := h x6 hl hu
  change Rn _ _ _ _ _ _ _ _ _ _ [.int x6, .int a4] _ _
  refine n_brP rfl rfl ⟨fun hcn => ?_, fun hcn => ?_⟩
  · replace h := h.1 ((i_le (x := x6) (y := a4) rfl rfl).mp hcn)
    exact k_128_54_39 hd hc r7 h
  · replace h := h.2 (fun q => hcn ((i_le (x := x6) (y := a4) rfl rfl).mpr q))
    refine n_ld rfl rfl rfl ?_
    refine n_get (v := .ref 39) rfl (hv_C (a := 83) (n := 0) rfl rfl rfl) ?_
    refine n_get (v := .int sf) rfl (hv_f (a := 39) rfl rfl (fun _ _ hw => hw.1.2.2.1)) ?_
    refine n_brN rfl rfl ⟨fun hcn => ?_, fun hcn => ?_⟩
    · replace h := h.1 (fun q => hcn ((i_eq (x := sf) (y := 0) rfl (show (0 : Int32).toInt = 0 by decide)).mpr q))
      exact k_128_54_39 hd hc r7 h
    · replace h := h.2 ((i_eq (x := sf) (y := 0) rfl (show (0 : Int32).toInt = 0 by decide)).mp hcn)
      refine n_ld rfl rfl rfl ?_
      refine n_ld rfl rfl rfl ?_
      refine n_tt [.ref 83, .int a4] [] rfl rfl rfl rfl (Tt.imp h (fun v12 sq h => ?_))
      obtain ⟨sa7, sk8, sf9, sc10, sz11⟩ := sq
      obtain ⟨rfl, h⟩ := h
      change Rn _ _ _ _ _ _ _ _ _ _ [] _ _
      replace h := h _ (i_add (x := a4) (y := 1) rfl (show (1 : Int32).toInt = 1 by decide))
      refine n_inc [.ref 83, .ref 39, .int a2, .int a3, .int (a4 + 1), .null, .null] rfl rfl rfl rfl ?_
      refine n_go rfl ?_
      exact r38 a2 a3 (a4 + 1) sa7 sk8 sf9 sc10 sz11 h
theorem kl_128_38_39 {d d0 : Nat} (hd : d = d0 + 4) (hc : ∀ p ∈ s_w128, CTR (yex d) p.1 p.2) {R7 : Int32 → Int32 → Int32 → Int32 → Int32 → Int32 → Prop} {a2 : Int32} {a3 : Int32} {a4 : Int32} {sa : Int32} {sk : Int32} {sf : Int32} {sc : Int32} {sz : Int32} {Q : Option Value → sW → Prop} (r7 : ∀ a2 sa sk sf sc sz, R7 a2 sa sk sf sc sz → Rn d wdL (((84, 5), 39, [(83, 1, 39), (83, 2, 40), (75, 0, 39), (75, 1, 57), (75, 2, 61)]) : wW) (((84, 5), 39, [(83, 1, 39), (83, 2, 40), (75, 0, 39), (75, 1, 57), (75, 2, 61)]) : wW) xL_10 5 (none) xE_128 (xE_128.drop 7) [.ref 83, .ref 39, .int a2, .null, .null, .null, .null] [] (sa, sk, sf, sc, sz) Q) (h : wl_128_38 (fun k => Tt d wdL (wk_128 39 k) (wk_128 39 k)) 39 R7 a2 a3 a4 sa sk sf sc sz Q) : Rn d wdL (((84, 5), 39, [(83, 1, 39), (83, 2, 40), (75, 0, 39), (75, 1, 57), (75, 2, 61)]) : wW) (((84, 5), 39, [(83, 1, 39), (83, 2, 40), (75, 0, 39), (75, 1, 57), (75, 2, 61)]) : wW) xL_10 5 (none) xE_128 (xE_128.drop 38) [.ref 83, .ref 39, .int a2, .int a3, .int a4, .null, .null] [] (sa, sk, sf, sc, sz) Q := by
  obtain ⟨I, μ, h0, h1⟩ := h
  have key : ∀ (n : Nat) (a2 : Int32) (a3 : Int32) (a4 : Int32) (sa : Int32) (sk : Int32) (sf : Int32) (sc : Int32) (sz : Int32), μ a2 a3 a4 sa sk sf sc sz = n → I a2 a3 a4 sa sk sf sc sz → Rn d wdL (((84, 5), 39, [(83, 1, 39), (83, 2, 40), (75, 0, 39), (75, 1, 57), (75, 2, 61)]) : wW) (((84, 5), 39, [(83, 1, 39), (83, 2, 40), (75, 0, 39), (75, 1, 57), (75, 2, 61)]) : wW) xL_10 5 (none) xE_128 (xE_128.drop 38) [.ref 83, .ref 39, .int a2, .int a3, .int a4, .null, .null] [] (sa, sk, sf, sc, sz) Q := by
    intro n
    induction n using Nat.strongRecOn with
    | ind n ih =>
      intro a2 a3 a4 sa sk sf sc sz e hI
      exact k_128_38_39 hd hc r7 (fun a2' a3' a4' sa' sk' sf' sc' sz' q => ih _ (by rw [← e]; exact q.2) a2' a3' a4' sa' sk' sf' sc' sz' rfl q.1) (h1 a2 a3 a4 sa sk sf sc sz hI)
  exact key _ a2 a3 a4 sa sk sf sc sz rfl h0
set_option maxRecDepth 20000 in
theorem k_128_29_39 {d d0 : Nat} (hd : d = d0 + 4) (hc : ∀ p ∈ s_w128, CTR (yex d) p.1 p.2) {R7 : Int32 → Int32 → Int32 → Int32 → Int32 → Int32 → Prop} {a2 : Int32} {a3 : Int32} {sa : Int32} {sk : Int32} {sf : Int32} {sc : Int32} {sz : Int32} {Q : Option Value → sW → Prop} (r7 : ∀ a2 sa sk sf sc sz, R7 a2 sa sk sf sc sz → Rn d wdL (((84, 5), 39, [(83, 1, 39), (83, 2, 40), (75, 0, 39), (75, 1, 57), (75, 2, 61)]) : wW) (((84, 5), 39, [(83, 1, 39), (83, 2, 40), (75, 0, 39), (75, 1, 57), (75, 2, 61)]) : wW) xL_10 5 (none) xE_128 (xE_128.drop 7) [.ref 83, .ref 39, .int a2, .null, .null, .null, .null] [] (sa, sk, sf, sc, sz) Q) (h : w_128_29 (fun k => Tt d wdL (wk_128 39 k) (wk_128 39 k)) 39 R7 a2 a3 sa sk sf sc sz Q) : Rn d wdL (((84, 5), 39, [(83, 1, 39), (83, 2, 40), (75, 0, 39), (75, 1, 57), (75, 2, 61)]) : wW) (((84, 5), 39, [(83, 1, 39), (83, 2, 40), (75, 0, 39), (75, 1, 57), (75, 2, 61)]) : wW) xL_10 5 (none) xE_128 (xE_128.drop 29) [.ref 83, .ref 39, .int a2, .int a3, .null, .null, .null] [] (sa, sk, sf, sc, sz) Q := by
  unfold w_128_29 at h
  refine n_ld rfl rfl rfl ?_
  refine n_ld rfl rfl rfl ?_
  refine n_ctr [.ref 83, .int a3] [] rfl rfl rfl (hc (130, q_130) (List.mem_of_getElem? (i := 1) rfl)) ⟨⟨_, rfl, cmem_ok rfl⟩, vK_int _, trivial⟩ rfl rfl (fun vq sq hv hk => ?_)
  obtain ⟨sa1, sk2, sf3, sc4, sz5⟩ := sq
  obtain ⟨k1, k2, k3, k4, k5, k6, k7⟩ := hk
  obtain rfl : sa = sa1 := (k1 (wmem_no rfl)).symm
  obtain rfl : sk = sk2 := (k2).symm
  obtain rfl : sf = sf3 := (k3 (wmem_no rfl)).symm
  obtain rfl : sc = sc4 := (k5 (wmem_no rfl)).symm
  obtain rfl : sz = sz5 := (k6 (wmem_no rfl)).symm
  cases (show vq = none from hv)
  change Rn _ _ _ _ _ _ _ _ _ _ [] _ _
  refine n_ld rfl rfl rfl ?_
  refine n_get (v := .ref 39) rfl (hv_C (a := 83) (n := 0) rfl rfl rfl) ?_
  refine n_ld rfl rfl rfl ?_
  refine n_c [.int 1, .int a2, .ref 39] (xo_push (.int 1)) rfl rfl ?_
  refine n_ctr [.ref 39, .int a2, .int 1] [] rfl rfl rfl (hc (43, q_43) (List.mem_of_getElem? (i := 0) rfl)) ⟨⟨_, rfl, cmem_ok rfl⟩, vK_int _, vK_int _, trivial⟩ rfl rfl (fun vq sq hv hk => ?_)
  obtain ⟨sa6, sk7, sf8, sc9, sz10⟩ := sq
  obtain ⟨k1, k2, k3, k4, k5, k6, k7⟩ := hk
  obtain rfl : sa = sa6 := (k1 (wmem_no rfl)).symm
  obtain rfl : sk = sk7 := (k2).symm
  obtain rfl : sf = sf8 := (k3 (wmem_no rfl)).symm
  obtain rfl : sc = sc9 := (k5 (wmem_no rfl)).symm
  obtain rfl : sz = sz10 := (k6 (wmem_no rfl)).symm
  obtain ⟨vr, rfl, x11, rfl, hl, hu⟩ := hv
  replace h := h x11 hl hu
  change Rn _ _ _ _ _ _ _ _ _ _ [.int x11] _ _
  refine n_st [.ref 83, .ref 39, .int a2, .int a3, .int x11, .null, .null] rfl rfl rfl ?_
  exact kl_128_38_39 hd hc r7 h
set_option maxRecDepth 20000 in
theorem k_128_7_39 {d d0 : Nat} (hd : d = d0 + 4) (hc : ∀ p ∈ s_w128, CTR (yex d) p.1 p.2) {R7 : Int32 → Int32 → Int32 → Int32 → Int32 → Int32 → Prop} {a2 : Int32} {sa : Int32} {sk : Int32} {sf : Int32} {sc : Int32} {sz : Int32} {Q : Option Value → sW → Prop} (r7 : ∀ a2 sa sk sf sc sz, R7 a2 sa sk sf sc sz → Rn d wdL (((84, 5), 39, [(83, 1, 39), (83, 2, 40), (75, 0, 39), (75, 1, 57), (75, 2, 61)]) : wW) (((84, 5), 39, [(83, 1, 39), (83, 2, 40), (75, 0, 39), (75, 1, 57), (75, 2, 61)]) : wW) xL_10 5 (none) xE_128 (xE_128.drop 7) [.ref 83, .ref 39, .int a2, .null, .null, .null, .null] [] (sa, sk, sf, sc, sz) Q) (h : w_128_7 (fun k => Tt d wdL (wk_128 39 k) (wk_128 39 k)) 39 R7 a2 sa sk sf sc sz Q) : Rn d wdL (((84, 5), 39, [(83, 1, 39), (83, 2, 40), (75, 0, 39), (75, 1, 57), (75, 2, 61)]) : wW) (((84, 5), 39, [(83, 1, 39), (83, 2, 40), (75, 0, 39), (75, 1, 57), (75, 2, 61)]) : wW) xL_10 5 (none) xE_128 (xE_128.drop 7) [.ref 83, .ref 39, .int a2, .null, .null, .null, .null] [] (sa, sk, sf, sc, sz) Q := by
  unfold w_128_7 at h
  refine n_ld rfl rfl rfl ?_
  refine n_ld rfl rfl rfl ?_
  refine n_get (v := .ref 39) rfl (hv_C (a := 83) (n := 0) rfl rfl rfl) ?_
  refine n_ctr [.ref 39] [.int a2] rfl rfl rfl (hc (48, q_48) (List.mem_of_getElem? (i := 2) rfl)) ⟨⟨_, rfl, cmem_ok rfl⟩, trivial⟩ rfl rfl (fun vq sq hv hk => ?_)
  obtain ⟨sa1, sk2, sf3, sc4, sz5⟩ := sq
  obtain ⟨k1, k2, k3, k4, k5, k6, k7⟩ := hk
  obtain rfl : sa = sa1 := (k1 (wmem_no rfl)).symm
  obtain rfl : sk = sk2 := (k2).symm
  obtain rfl : sf = sf3 := (k3 (wmem_no rfl)).symm
  obtain rfl : sc = sc4 := (k5 (wmem_no rfl)).symm
  obtain rfl : sz = sz5 := (k6 (wmem_no rfl)).symm
  obtain ⟨vr, rfl, x6, rfl, hl, hu⟩ := hv
  replace h := h x6 hl hu
  change Rn _ _ _ _ _ _ _ _ _ _ [.int x6, .int a2] _ _
  refine n_brP rfl rfl ⟨fun hcn => ?_, fun hcn => ?_⟩
  · replace h := h.1 ((i_le (x := x6) (y := a2) rfl rfl).mp hcn)
    exact k_128_56_39 hd hc  h
  · replace h := h.2 (fun q => hcn ((i_le (x := x6) (y := a2) rfl rfl).mpr q))
    refine n_ld rfl rfl rfl ?_
    refine n_get (v := .ref 39) rfl (hv_C (a := 83) (n := 0) rfl rfl rfl) ?_
    refine n_get (v := .int sf) rfl (hv_f (a := 39) rfl rfl (fun _ _ hw => hw.1.2.2.1)) ?_
    refine n_brN rfl rfl ⟨fun hcn => ?_, fun hcn => ?_⟩
    · replace h := h.1 (fun q => hcn ((i_eq (x := sf) (y := 0) rfl (show (0 : Int32).toInt = 0 by decide)).mpr q))
      exact k_128_56_39 hd hc  h
    · replace h := h.2 ((i_eq (x := sf) (y := 0) rfl (show (0 : Int32).toInt = 0 by decide)).mp hcn)
      refine n_ld rfl rfl rfl ?_
      refine n_get (v := .ref 39) rfl (hv_C (a := 83) (n := 0) rfl rfl rfl) ?_
      refine n_ld rfl rfl rfl ?_
      refine n_c [.int 0, .int a2, .ref 39] (xo_push (.int 0)) rfl rfl ?_
      refine n_ctr [.ref 39, .int a2, .int 0] [] rfl rfl rfl (hc (43, q_43) (List.mem_of_getElem? (i := 0) rfl)) ⟨⟨_, rfl, cmem_ok rfl⟩, vK_int _, vK_int _, trivial⟩ rfl rfl (fun vq sq hv hk => ?_)
      obtain ⟨sa7, sk8, sf9, sc10, sz11⟩ := sq
      obtain ⟨k1, k2, k3, k4, k5, k6, k7⟩ := hk
      obtain rfl : sa = sa7 := (k1 (wmem_no rfl)).symm
      obtain rfl : sk = sk8 := (k2).symm
      obtain rfl : sf = sf9 := (k3 (wmem_no rfl)).symm
      obtain rfl : sc = sc10 := (k5 (wmem_no rfl)).symm
      obtain rfl : sz = sz11 := (k6 (wmem_no rfl)).symm
      obtain ⟨vr, rfl, x12, rfl, hl, hu⟩ := hv
      replace h := h x12 hl hu
      change Rn _ _ _ _ _ _ _ _ _ _ [.int x12] _ _
      refine n_st [.ref 83, .ref 39, .int a2, .int x12, .null, .null, .null] rfl rfl rfl ?_
      refine n_ld rfl rfl rfl ?_
      refine n_brP rfl rfl ⟨fun hcn => ?_, fun hcn => ?_⟩
      · replace h := h.1 ((i_le (x := 0) (y := x12) (show (0 : Int32).toInt = 0 by decide) rfl).mp hcn)
        exact k_128_29_39 hd hc r7 h
      · replace h := h.2 (fun q => hcn ((i_le (x := 0) (y := x12) (show (0 : Int32).toInt = 0 by decide) rfl).mpr q))
        refine n_ld rfl rfl rfl ?_
        refine n_c [.int (-1), .ref 83] (xo_push (.int (-1))) rfl rfl ?_
        refine n_ld rfl rfl rfl ?_
        replace h := h _ (i_sub (x := (-1)) (y := x12) (show ((-1) : Int32).toInt = (-1) by decide) rfl)
        refine n_c [.int ((-1) - x12), .ref 83] xo_isub rfl rfl ?_
        refine n_ctr [.ref 83, .int ((-1) - x12)] [] rfl rfl rfl (hc (129, q_129) (List.mem_of_getElem? (i := 3) rfl)) ⟨⟨_, rfl, cmem_ok rfl⟩, ⟨_, rfl, h.1.1, h.1.2⟩, trivial⟩ rfl rfl (fun vq sq hv hk => ?_)
        replace h := h.2
        obtain ⟨sa14, sk15, sf16, sc17, sz18⟩ := sq
        obtain ⟨k1, k2, k3, k4, k5, k6, k7⟩ := hk
        obtain rfl : sa = sa14 := (k1 (wmem_no rfl)).symm
        obtain rfl : sk = sk15 := (k2).symm
        replace h := h sf16 (k4 (wmem_no rfl))
        obtain rfl : sc = sc17 := (k5 (wmem_no rfl)).symm
        obtain rfl : sz = sz18 := (k6 (wmem_no rfl)).symm
        cases (show vq = none from hv)
        change Rn _ _ _ _ _ _ _ _ _ _ [] _ _
        exact k_128_29_39 hd hc r7 h
theorem kl_128_7_39 {d d0 : Nat} (hd : d = d0 + 4) (hc : ∀ p ∈ s_w128, CTR (yex d) p.1 p.2)  {a2 : Int32} {sa : Int32} {sk : Int32} {sf : Int32} {sc : Int32} {sz : Int32} {Q : Option Value → sW → Prop}  (h : wl_128_7 (fun k => Tt d wdL (wk_128 39 k) (wk_128 39 k)) 39  a2 sa sk sf sc sz Q) : Rn d wdL (((84, 5), 39, [(83, 1, 39), (83, 2, 40), (75, 0, 39), (75, 1, 57), (75, 2, 61)]) : wW) (((84, 5), 39, [(83, 1, 39), (83, 2, 40), (75, 0, 39), (75, 1, 57), (75, 2, 61)]) : wW) xL_10 5 (none) xE_128 (xE_128.drop 7) [.ref 83, .ref 39, .int a2, .null, .null, .null, .null] [] (sa, sk, sf, sc, sz) Q := by
  obtain ⟨I, μ, h0, h1⟩ := h
  have key : ∀ (n : Nat) (a2 : Int32) (sa : Int32) (sk : Int32) (sf : Int32) (sc : Int32) (sz : Int32), μ a2 sa sk sf sc sz = n → I a2 sa sk sf sc sz → Rn d wdL (((84, 5), 39, [(83, 1, 39), (83, 2, 40), (75, 0, 39), (75, 1, 57), (75, 2, 61)]) : wW) (((84, 5), 39, [(83, 1, 39), (83, 2, 40), (75, 0, 39), (75, 1, 57), (75, 2, 61)]) : wW) xL_10 5 (none) xE_128 (xE_128.drop 7) [.ref 83, .ref 39, .int a2, .null, .null, .null, .null] [] (sa, sk, sf, sc, sz) Q := by
    intro n
    induction n using Nat.strongRecOn with
    | ind n ih =>
      intro a2 sa sk sf sc sz e hI
      exact k_128_7_39 hd hc (fun a2' sa' sk' sf' sc' sz' q => ih _ (by rw [← e]; exact q.2) a2' sa' sk' sf' sc' sz' rfl q.1) (h1 a2 sa sk sf sc sz hI)
  exact key _ a2 sa sk sf sc sz rfl h0
set_option maxRecDepth 20000 in
theorem k_128_0_39 {d d0 : Nat} (hd : d = d0 + 4) (hc : ∀ p ∈ s_w128, CTR (yex d) p.1 p.2)  {sa : Int32} {sk : Int32} {sf : Int32} {sc : Int32} {sz : Int32} {Q : Option Value → sW → Prop}  (h : w_128_0 (fun k => Tt d wdL (wk_128 39 k) (wk_128 39 k)) 39  sa sk sf sc sz Q) : Rn d wdL (((84, 5), 39, [(75, 0, 39), (75, 1, 57), (75, 2, 61)]) : wW) (((84, 5), 39, [(83, 1, 39), (83, 2, 40), (75, 0, 39), (75, 1, 57), (75, 2, 61)]) : wW) xL_10 5 (none) xE_128 (xE_128.drop 0) [.ref 83, .ref 39, .null, .null, .null, .null, .null] [] (sa, sk, sf, sc, sz) Q := by
  unfold w_128_0 at h
  refine n_ld rfl rfl rfl ?_
  refine n_ld rfl rfl rfl ?_
  refine n_ld rfl rfl rfl ?_
  refine n_get (v := .ref 40) rfl (hv_R (a := 39) rfl rfl) ?_
  refine n_tt [.ref 83, .ref 39, .ref 40] [] (w1 := (((84, 5), 39, [(83, 1, 39), (83, 2, 40), (75, 0, 39), (75, 1, 57), (75, 2, 61)]) : wW)) rfl rfl rfl rfl (Tt.imp (u_121 hd (P := 39) (T := 40) rfl rfl rfl) (fun v1 s1 hq => ?_))
  obtain ⟨rfl, rfl⟩ := hq
  change Rn _ _ _ _ _ _ _ _ _ _ [] _ _
  refine n_c [.int 0] (xo_push (.int 0)) rfl rfl ?_
  refine n_st [.ref 83, .ref 39, .int 0, .null, .null, .null, .null] rfl rfl rfl ?_
  exact kl_128_7_39 hd hc  h
theorem t_128_39 {d : Nat} (hc : ∀ p ∈ s_w128, CTR (yex (d + 4)) p.1 p.2) {sa : Int32} {sk : Int32} {sf : Int32} {sc : Int32} {sz : Int32} {Q : Option Value → sW → Prop} (h : w_128_0 (fun k => Tt (d + 4) wdL (wk_128 39 k) (wk_128 39 k)) 39 sa sk sf sc sz Q) : Tt (d + 5) wdL (((84, 5), 39, [(75, 0, 39), (75, 1, 57), (75, 2, 61)]) : wW) (((84, 5), 39, [(83, 1, 39), (83, 2, 40), (75, 0, 39), (75, 1, 57), (75, 2, 61)]) : wW) 128 [.ref 83, .ref 39] (sa, sk, sf, sc, sz) Q := tt_of (E := xE_128) (L := xL_10) (ml := 5) (ret := none) rfl rfl rfl (k_128_0_39 rfl hc h)
/-! FeatherBench$Bodies.check -/
def wk_5 (P : Nat) : Nat → wW
  | 0 => (((84, 5), P, [(75, 0, P), (75, 1, (P + 18)), (75, 2, (P + 22))]) : wW)
  | _ => (((84, 5), P, [(83, 1, P), (83, 2, (P + 1)), (84, 4, (P + 4)), (84, 3, (P + 1)), (84, 2, P), (75, 0, P), (75, 1, (P + 18)), (75, 2, (P + 22))]) : wW)
def s_w5 : List (Nat × cSg) := [(82, q_82), (45, q_45), (41, q_41), (42, q_42), (88, q_88)]
def w_5_143 (T : Nat → Nat → List Value → sW → (Option Value → sW → Prop) → Prop) (P : Nat)  (a2 : Int32) (t1 : Int32) (sa : Int32) (sk : Int32) (sf : Int32) (sc : Int32) (sz : Int32) (Q : Option Value → sW → Prop) : Prop :=
  T 1 59 [.ref P, .int 0, .int 0, .int 0, .int 0, .int 0, .int 0] (sa, sk, sf, sc, sz) (fun v6 (sa1, sk2, sf3, sc4, sz5) => v6 = none ∧ (Q none (sa1, sk2, sf3, sc4, sz5)))
def w_5_95 (T : Nat → Nat → List Value → sW → (Option Value → sW → Prop) → Prop) (P : Nat)  (a2 : Int32) (sa : Int32) (sk : Int32) (sf : Int32) (sc : Int32) (sz : Int32) (Q : Option Value → sW → Prop) : Prop :=
  (sf.toInt = 0 → ∀ x6 : Int32, 0 ≤ x6.toInt → x6.toInt ≤ 5000 → ∀ x7 : Int32, (0 ≤ sc.toInt → x7.toInt = sc.toInt / 6) → T 1 7 [.ref 84, .int 1] (x6, sk, sf, sc, sz) (fun v13 (sa8, sk9, sf10, sc11, sz12) => ∃ x14, v13 = some (.int x14) ∧ ((¬ (sf10.toInt = 0) → w_5_143 T P  x14 (-1) sa8 sk9 sf10 sc11 sz12 Q) ∧ (sf10.toInt = 0 → T 1 92 [.ref 75, .int x14] (sa8, sk9, sf10, sc11, sz12) (fun v20 (sa15, sk16, sf17, sc18, sz19) => ∃ x21, v20 = some (.int x21) ∧ (w_5_143 T P  x14 x21 sa15 sk16 sf17 sc18 sz19 Q)))))) ∧ (¬ (sf.toInt = 0) → Q none (sa, sk, sf, sc, sz))
def w_5_84 (T : Nat → Nat → List Value → sW → (Option Value → sW → Prop) → Prop) (P : Nat) (R22 : Int32 → Int32 → Int32 → Int32 → Int32 → Int32 → Prop) (a2 : Int32) (a3 : Int32) (a4 : Int32) (a5 : Int32) (a6 : Int32) (sa : Int32) (sk : Int32) (sf : Int32) (sc : Int32) (sz : Int32) (Q : Option Value → sW → Prop) : Prop :=
  T 1 59 [.ref P, .int 0, .int 0, .int 0, .int 0, .int 0, .int 0] (sa, sk, sf, sc, sz) (fun v6 (sa1, sk2, sf3, sc4, sz5) => v6 = none ∧ (∀ x7 : Int32, (-2147483648 ≤ a2.toInt + 1 ∧ a2.toInt + 1 ≤ 2147483647 → x7.toInt = a2.toInt + 1) → R22 x7 sa1 sk2 sf3 sc4 sz5))
def w_5_22 (T : Nat → Nat → List Value → sW → (Option Value → sW → Prop) → Prop) (P : Nat) (R22 : Int32 → Int32 → Int32 → Int32 → Int32 → Int32 → Prop) (a2 : Int32) (sa : Int32) (sk : Int32) (sf : Int32) (sc : Int32) (sz : Int32) (Q : Option Value → sW → Prop) : Prop :=
  ∀ x6 : Int32, 0 ≤ x6.toInt → x6.toInt ≤ 60 → (x6.toInt ≤ a2.toInt → w_5_95 T P  a2 sa sk sf sc sz Q) ∧ (¬ (x6.toInt ≤ a2.toInt) → (¬ (sf.toInt = 0) → w_5_95 T P  a2 sa sk sf sc sz Q) ∧ (sf.toInt = 0 → T 1 6 [.ref 84, .int a2] (sa, sk, sf, sc, sz) (fun v12 (sa7, sk8, sf9, sc10, sz11) => v12 = none ∧ (T 1 7 [.ref 84, .int 1] (sa7, sk8, sf9, sc10, sz11) (fun v18 (sa13, sk14, sf15, sc16, sz17) => ∃ x19, v18 = some (.int x19) ∧ (∀ x20 : Int32, ∀ x26 : Int32, -1 ≤ x26.toInt → x26.toInt ≤ 5000 → ∀ x27 : Int32, ∀ x33 : Int32, -1 ≤ x33.toInt → x33.toInt ≤ 5000 → ∀ x34 : Int32, (-2147483648 ≤ x26.toInt + x33.toInt ∧ x26.toInt + x33.toInt ≤ 2147483647 → x34.toInt = x26.toInt + x33.toInt) → ∀ x35 : Int32, ∀ x41 : Int32, -1 ≤ x41.toInt → x41.toInt ≤ 5000 → ∀ x42 : Int32, (-2147483648 ≤ x34.toInt + x41.toInt ∧ x34.toInt + x41.toInt ≤ 2147483647 → x42.toInt = x34.toInt + x41.toInt) → ∀ x48 : Int32, -1 ≤ x48.toInt → x48.toInt ≤ 2000000000 → (¬ (sf15.toInt = 0) → w_5_84 T P R22 a2 sa7 x19 x34 x48 sa13 sk14 sf15 sc16 sz17 Q) ∧ (sf15.toInt = 0 → ∀ x54 : Int32, 0 ≤ x54.toInt → x54.toInt ≤ 9 → T 1 38 [.ref P, .int x54, .int sa7] (sa13, sk14, sf15, sc16, sz17) (fun v60 (sa55, sk56, sf57, sc58, sz59) => v60 = none ∧ (w_5_84 T P R22 a2 sa7 x19 x34 x48 sa55 sk56 sf57 sc58 sz59 Q)))))))))
def wl_5_22 (T : Nat → Nat → List Value → sW → (Option Value → sW → Prop) → Prop) (P : Nat)  (a2 : Int32) (sa : Int32) (sk : Int32) (sf : Int32) (sc : Int32) (sz : Int32) (Q : Option Value → sW → Prop) : Prop :=
  ∃ (I : Int32 → Int32 → Int32 → Int32 → Int32 → Int32 → Prop) (μ : Int32 → Int32 → Int32 → Int32 → Int32 → Int32 → Nat), I a2 sa sk sf sc sz ∧ ∀ (a2 : Int32) (sa : Int32) (sk : Int32) (sf : Int32) (sc : Int32) (sz : Int32), I a2 sa sk sf sc sz → w_5_22 T P (fun a2' sa' sk' sf' sc' sz' => I a2' sa' sk' sf' sc' sz' ∧ μ a2' sa' sk' sf' sc' sz' < μ a2 sa sk sf sc sz) a2 sa sk sf sc sz Q
def w_5_0 (T : Nat → Nat → List Value → sW → (Option Value → sW → Prop) → Prop) (P : Nat)  (sa : Int32) (sk : Int32) (sf : Int32) (sc : Int32) (sz : Int32) (Q : Option Value → sW → Prop) : Prop :=
  wl_5_22 T P  0 sa sk sf sc sz Q
set_option maxRecDepth 20000 in
theorem k_5_143_3 {d d0 : Nat} (hd : d = d0 + 4) (hc : ∀ p ∈ s_w5, CTR (yex d) p.1 p.2)  {a2 : Int32} {t1 : Int32} {sa : Int32} {sk : Int32} {sf : Int32} {sc : Int32} {sz : Int32} {Q : Option Value → sW → Prop}  (h : w_5_143 (fun k => Tt d wdL (wk_5 3 k) (wk_5 3 k)) 3  a2 t1 sa sk sf sc sz Q) : Rn d wdL (((84, 5), 3, [(83, 1, 3), (83, 2, 4), (84, 4, 7), (84, 3, 4), (84, 2, 3), (75, 0, 3), (75, 1, 21), (75, 2, 25)]) : wW) (((84, 5), 3, [(83, 1, 3), (83, 2, 4), (84, 4, 7), (84, 3, 4), (84, 2, 3), (75, 0, 3), (75, 1, 21), (75, 2, 25)]) : wW) xL_1 7 (none) xE_5 (xE_5.drop 143) [.ref 84, .ref 3, .int a2, .null, .null, .null, .null, .null, .null] [.int t1, .ref 3] (sa, sk, sf, sc, sz) Q := by
  unfold w_5_143 at h
  refine n_put (a := 3) (w1 := (((84, 5), 3, [(83, 1, 3), (83, 2, 4), (84, 4, 7), (84, 3, 4), (84, 2, 3), (75, 0, 3), (75, 1, 21), (75, 2, 25)]) : wW)) (s1 := (sa, sk, sf, sc, sz)) rfl rfl rfl rfl (vK_int _) rfl rfl rfl (Or.inr (Or.inl (by decide +kernel))) (ws_no (w := (((84, 5), 3, [(83, 1, 3), (83, 2, 4), (84, 4, 7), (84, 3, 4), (84, 2, 3), (75, 0, 3), (75, 1, 21), (75, 2, 25)]) : wW)) (s := (sa, sk, sf, sc, sz)) (a := 3) (k := 13) rfl) ?_
  refine n_ld rfl rfl rfl ?_
  refine n_get (v := .ref 3) rfl (hv_C (a := 84) (n := 4) rfl rfl rfl) ?_
  refine n_c [.int 0, .ref 3] (xo_push (.int 0)) rfl rfl ?_
  refine n_c [.int 0, .int 0, .ref 3] (xo_push (.int 0)) rfl rfl ?_
  refine n_c [.int 0, .int 0, .int 0, .ref 3] (xo_push (.int 0)) rfl rfl ?_
  refine n_c [.int 0, .int 0, .int 0, .int 0, .ref 3] (xo_push (.int 0)) rfl rfl ?_
  refine n_c [.int 0, .int 0, .int 0, .int 0, .int 0, .ref 3] (xo_push (.int 0)) rfl rfl ?_
  refine n_c [.int 0, .int 0, .int 0, .int 0, .int 0, .int 0, .ref 3] (xo_push (.int 0)) rfl rfl ?_
  refine n_tt [.ref 3, .int 0, .int 0, .int 0, .int 0, .int 0, .int 0] [] rfl rfl rfl rfl (Tt.imp h (fun v6 sq h => ?_))
  obtain ⟨sa1, sk2, sf3, sc4, sz5⟩ := sq
  obtain ⟨rfl, h⟩ := h
  change Rn _ _ _ _ _ _ _ _ _ _ [] _ _
  exact n_ret0 rfl h
set_option maxRecDepth 20000 in
theorem k_5_95_3 {d d0 : Nat} (hd : d = d0 + 4) (hc : ∀ p ∈ s_w5, CTR (yex d) p.1 p.2)  {a2 : Int32} {sa : Int32} {sk : Int32} {sf : Int32} {sc : Int32} {sz : Int32} {Q : Option Value → sW → Prop}  (h : w_5_95 (fun k => Tt d wdL (wk_5 3 k) (wk_5 3 k)) 3  a2 sa sk sf sc sz Q) : Rn d wdL (((84, 5), 3, [(83, 1, 3), (83, 2, 4), (84, 4, 7), (84, 3, 4), (84, 2, 3), (75, 0, 3), (75, 1, 21), (75, 2, 25)]) : wW) (((84, 5), 3, [(83, 1, 3), (83, 2, 4), (84, 4, 7), (84, 3, 4), (84, 2, 3), (75, 0, 3), (75, 1, 21), (75, 2, 25)]) : wW) xL_1 7 (none) xE_5 (xE_5.drop 95) [.ref 84, .ref 3, .int a2, .null, .null, .null, .null, .null, .null] [] (sa, sk, sf, sc, sz) Q := by
  unfold w_5_95 at h
  refine n_ld rfl rfl rfl ?_
  refine n_get (v := .ref 3) rfl (hv_C (a := 84) (n := 4) rfl rfl rfl) ?_
  refine n_get (v := .int sf) rfl (hv_f (a := 3) rfl rfl (fun _ _ hw => hw.1.2.2.1)) ?_
  refine n_brP rfl rfl ⟨fun hcn => ?_, fun hcn => ?_⟩
  · replace h := h.1 ((i_eq (x := sf) (y := 0) rfl (show (0 : Int32).toInt = 0 by decide)).mp hcn)
    refine n_ld rfl rfl rfl ?_
    refine n_c [.int (-1), .ref 84] (xo_push (.int (-1))) rfl rfl ?_
    refine n_put (a := 84) (w1 := (((84, 5), 3, [(83, 1, 3), (83, 2, 4), (84, 4, 7), (84, 3, 4), (84, 2, 3), (75, 0, 3), (75, 1, 21), (75, 2, 25)]) : wW)) (s1 := (sa, sk, sf, sc, sz)) rfl rfl rfl rfl (vK_int _) rfl rfl rfl (Or.inr (Or.inl (by decide +kernel))) (ws_no (w := (((84, 5), 3, [(83, 1, 3), (83, 2, 4), (84, 4, 7), (84, 3, 4), (84, 2, 3), (75, 0, 3), (75, 1, 21), (75, 2, 25)]) : wW)) (s := (sa, sk, sf, sc, sz)) (a := 84) (k := 6) rfl) ?_
    refine n_ld rfl rfl rfl ?_
    refine n_get (v := .ref 75) rfl (hv_R (a := 84) rfl rfl) ?_
    refine n_c [.int (-1), .ref 75] (xo_push (.int (-1))) rfl rfl ?_
    refine n_c [.int (-1), .int (-1), .ref 75] (xo_push (.int (-1))) rfl rfl ?_
    refine n_c [.int (-1), .int (-1), .int (-1), .ref 75] (xo_push (.int (-1))) rfl rfl ?_
    refine n_ctr [.ref 75, .int (-1), .int (-1), .int (-1)] [] rfl rfl rfl (hc (82, q_82) (List.mem_of_getElem? (i := 0) rfl)) ⟨⟨_, rfl, cmem_ok rfl⟩, vK_int _, vK_int _, vK_int _, trivial⟩ rfl rfl (fun vq sq hv hk => ?_)
    obtain ⟨sa1, sk2, sf3, sc4, sz5⟩ := sq
    obtain ⟨k1, k2, k3, k4, k5, k6, k7⟩ := hk
    obtain rfl : sa = sa1 := (k1 (wmem_no rfl)).symm
    obtain rfl : sk = sk2 := (k2).symm
    obtain rfl : sf = sf3 := (k3 (wmem_no rfl)).symm
    obtain rfl : sc = sc4 := (k5 (wmem_no rfl)).symm
    obtain rfl : sz = sz5 := (k6 (wmem_no rfl)).symm
    cases (show vq = none from hv)
    change Rn _ _ _ _ _ _ _ _ _ _ [] _ _
    refine n_ld rfl rfl rfl ?_
    refine n_get (v := .ref 75) rfl (hv_R (a := 84) rfl rfl) ?_
    refine n_c [.int 18, .ref 75] (xo_push (.int 18)) rfl rfl ?_
    refine n_put (a := 75) (w1 := (((84, 5), 3, [(83, 1, 3), (83, 2, 4), (84, 4, 7), (84, 3, 4), (84, 2, 3), (75, 0, 3), (75, 1, 21), (75, 2, 25)]) : wW)) (s1 := (sa, sk, sf, sc, sz)) rfl rfl rfl rfl (vK_int _) rfl rfl rfl (Or.inr (Or.inl (by decide +kernel))) (ws_no (w := (((84, 5), 3, [(83, 1, 3), (83, 2, 4), (84, 4, 7), (84, 3, 4), (84, 2, 3), (75, 0, 3), (75, 1, 21), (75, 2, 25)]) : wW)) (s := (sa, sk, sf, sc, sz)) (a := 75) (k := 3) rfl) ?_
    refine n_ld rfl rfl rfl ?_
    refine n_ld rfl rfl rfl ?_
    refine n_get (v := .ref 3) rfl (hv_C (a := 84) (n := 4) rfl rfl rfl) ?_
    refine n_getI (a := 3) rfl rfl rfl (fun x6 hl hu => ?_)
    replace h := h x6 hl hu
    refine n_put (a := 84) (w1 := (((84, 5), 3, [(83, 1, 3), (83, 2, 4), (84, 4, 7), (84, 3, 4), (84, 2, 3), (75, 0, 3), (75, 1, 21), (75, 2, 25)]) : wW)) (s1 := (x6, sk, sf, sc, sz)) rfl rfl rfl rfl (vK_int _) rfl rfl rfl (Or.inr (Or.inl (by decide +kernel))) (ws_at (w := (((84, 5), 3, [(83, 1, 3), (83, 2, 4), (84, 4, 7), (84, 3, 4), (84, 2, 3), (75, 0, 3), (75, 1, 21), (75, 2, 25)]) : wW)) (s := (sa, sk, sf, sc, sz)) rfl) ?_
    refine n_ld rfl rfl rfl ?_
    refine n_get (v := .ref 3) rfl (hv_C (a := 84) (n := 4) rfl rfl rfl) ?_
    refine n_ld rfl rfl rfl ?_
    refine n_get (v := .ref 3) rfl (hv_C (a := 84) (n := 4) rfl rfl rfl) ?_
    refine n_get (v := .ref 37) rfl (hv_R (a := 3) rfl rfl) ?_
    refine n_get (v := .int sc) rfl (hv_f (a := 37) rfl rfl (fun _ _ hw => hw.1.2.2.2.1)) ?_
    refine n_c [.int 6, .int sc, .ref 3] (xo_push (.int 6)) rfl rfl ?_
    replace h := h (sc / 6) (i_dv (x := sc) (y := 6) rfl (show (6 : Int32).toInt = 6 by decide) (by decide))
    refine n_c [.int (sc / 6), .ref 3] xo_idiv rfl (o_idiv (by decide)) ?_
    refine n_put (a := 3) (w1 := (((84, 5), 3, [(83, 1, 3), (83, 2, 4), (84, 4, 7), (84, 3, 4), (84, 2, 3), (75, 0, 3), (75, 1, 21), (75, 2, 25)]) : wW)) (s1 := (x6, sk, sf, sc, sz)) rfl rfl rfl rfl (vK_int _) rfl rfl rfl (Or.inr (Or.inl (by decide +kernel))) (ws_no (w := (((84, 5), 3, [(83, 1, 3), (83, 2, 4), (84, 4, 7), (84, 3, 4), (84, 2, 3), (75, 0, 3), (75, 1, 21), (75, 2, 25)]) : wW)) (s := (x6, sk, sf, sc, sz)) (a := 3) (k := 12) rfl) ?_
    refine n_ld rfl rfl rfl ?_
    refine n_c [.int 1, .ref 84] (xo_push (.int 1)) rfl rfl ?_
    refine n_tt [.ref 84, .int 1] [] rfl rfl rfl rfl (Tt.imp h (fun v13 sq h => ?_))
    obtain ⟨sa8, sk9, sf10, sc11, sz12⟩ := sq
    obtain ⟨x14, rfl, h⟩ := h
    change Rn _ _ _ _ _ _ _ _ _ _ [.int x14] _ _
    refine n_st [.ref 84, .ref 3, .int x14, .null, .null, .null, .null, .null, .null] rfl rfl rfl ?_
    refine n_ld rfl rfl rfl ?_
    refine n_get (v := .ref 3) rfl (hv_C (a := 84) (n := 4) rfl rfl rfl) ?_
    refine n_ld rfl rfl rfl ?_
    refine n_get (v := .ref 3) rfl (hv_C (a := 84) (n := 4) rfl rfl rfl) ?_
    refine n_get (v := .int sf10) rfl (hv_f (a := 3) rfl rfl (fun _ _ hw => hw.1.2.2.1)) ?_
    refine n_brN rfl rfl ⟨fun hcn => ?_, fun hcn => ?_⟩
    · replace h := h.1 (fun q => hcn ((i_eq (x := sf10) (y := 0) rfl (show (0 : Int32).toInt = 0 by decide)).mpr q))
      refine n_c [.int (-1), .ref 3] (xo_push (.int (-1))) rfl rfl ?_
      exact k_5_143_3 hd hc  h
    · replace h := h.2 ((i_eq (x := sf10) (y := 0) rfl (show (0 : Int32).toInt = 0 by decide)).mp hcn)
      refine n_ld rfl rfl rfl ?_
      refine n_get (v := .ref 75) rfl (hv_R (a := 84) rfl rfl) ?_
      refine n_ld rfl rfl rfl ?_
      refine n_tt [.ref 75, .int x14] [.ref 3] rfl rfl rfl rfl (Tt.imp h (fun v20 sq h => ?_))
      obtain ⟨sa15, sk16, sf17, sc18, sz19⟩ := sq
      obtain ⟨x21, rfl, h⟩ := h
      change Rn _ _ _ _ _ _ _ _ _ _ [.int x21, .ref 3] _ _
      refine n_go rfl ?_
      exact k_5_143_3 hd hc  h
  · replace h := h.2 (fun q => hcn ((i_eq (x := sf) (y := 0) rfl (show (0 : Int32).toInt = 0 by decide)).mpr q))
    exact n_ret0 rfl h
set_option maxRecDepth 20000 in
theorem k_5_84_3 {d d0 : Nat} (hd : d = d0 + 4) (hc : ∀ p ∈ s_w5, CTR (yex d) p.1 p.2) {R22 : Int32 → Int32 → Int32 → Int32 → Int32 → Int32 → Prop} {a2 : Int32} {a3 : Int32} {a4 : Int32} {a5 : Int32} {a6 : Int32} {sa : Int32} {sk : Int32} {sf : Int32} {sc : Int32} {sz : Int32} {Q : Option Value → sW → Prop} (r22 : ∀ a2 sa sk sf sc sz, R22 a2 sa sk sf sc sz → Rn d wdL (((84, 5), 3, [(83, 1, 3), (83, 2, 4), (84, 4, 7), (84, 3, 4), (84, 2, 3), (75, 0, 3), (75, 1, 21), (75, 2, 25)]) : wW) (((84, 5), 3, [(83, 1, 3), (83, 2, 4), (84, 4, 7), (84, 3, 4), (84, 2, 3), (75, 0, 3), (75, 1, 21), (75, 2, 25)]) : wW) xL_1 7 (none) xE_5 (xE_5.drop 22) [.ref 84, .ref 3, .int a2, .null, .null, .null, .null, .null, .null] [] (sa, sk, sf, sc, sz) Q) (h : w_5_84 (fun k => Tt d wdL (wk_5 3 k) (wk_5 3 k)) 3 R22 a2 a3 a4 a5 a6 sa sk sf sc sz Q) : Rn d wdL (((84, 5), 3, [(83, 1, 3), (83, 2, 4), (84, 4, 7), (84, 3, 4), (84, 2, 3), (75, 0, 3), (75, 1, 21), (75, 2, 25)]) : wW) (((84, 5), 3, [(83, 1, 3), (83, 2, 4), (84, 4, 7), (84, 3, 4), (84, 2, 3), (75, 0, 3), (75, 1, 21), (75, 2, 25)]) : wW) xL_1 7 (none) xE_5 (xE_5.drop 84) [.ref 84, .ref 3, .int a2, .int a3, .int a4, .int a5, .int a6, .null, .null] [] (sa, sk, sf, sc, sz) Q := by
  unfold w_5_84 at h
  refine n_ld rfl rfl rfl ?_
  refine n_get (v := .ref 3) rfl (hv_C (a := 84) (n := 4) rfl rfl rfl) ?_
  refine n_c [.int 0, .ref 3] (xo_push (.int 0)) rfl rfl ?_
  refine n_c [.int 0, .int 0, .ref 3] (xo_push (.int 0)) rfl rfl ?_
  refine n_c [.int 0, .int 0, .int 0, .ref 3] (xo_push (.int 0)) rfl rfl ?_
  refine n_c [.int 0, .int 0, .int 0, .int 0, .ref 3] (xo_push (.int 0)) rfl rfl ?_
  refine n_c [.int 0, .int 0, .int 0, .int 0, .int 0, .ref 3] (xo_push (.int 0)) rfl rfl ?_
  refine n_c [.int 0, .int 0, .int 0, .int 0, .int 0, .int 0, .ref 3] (xo_push (.int 0)) rfl rfl ?_
  refine n_tt [.ref 3, .int 0, .int 0, .int 0, .int 0, .int 0, .int 0] [] rfl rfl rfl rfl (Tt.imp h (fun v6 sq h => ?_))
  obtain ⟨sa1, sk2, sf3, sc4, sz5⟩ := sq
  obtain ⟨rfl, h⟩ := h
  change Rn _ _ _ _ _ _ _ _ _ _ [] _ _
  replace h := h _ (i_add (x := a2) (y := 1) rfl (show (1 : Int32).toInt = 1 by decide))
  refine n_inc [.ref 84, .ref 3, .int (a2 + 1), .int a3, .int a4, .int a5, .int a6, .null, .null] rfl rfl rfl rfl ?_
  refine n_go rfl ?_
  refine n_fg 3 ?_
  refine n_fg 4 ?_
  refine n_fg 5 ?_
  refine n_fg 6 ?_
  exact r22 (a2 + 1) sa1 sk2 sf3 sc4 sz5 h
set_option maxRecDepth 20000 in
theorem k_5_22_3 {d d0 : Nat} (hd : d = d0 + 4) (hc : ∀ p ∈ s_w5, CTR (yex d) p.1 p.2) {R22 : Int32 → Int32 → Int32 → Int32 → Int32 → Int32 → Prop} {a2 : Int32} {sa : Int32} {sk : Int32} {sf : Int32} {sc : Int32} {sz : Int32} {Q : Option Value → sW → Prop} (r22 : ∀ a2 sa sk sf sc sz, R22 a2 sa sk sf sc sz → Rn d wdL (((84, 5), 3, [(83, 1, 3), (83, 2, 4), (84, 4, 7), (84, 3, 4), (84, 2, 3), (75, 0, 3), (75, 1, 21), (75, 2, 25)]) : wW) (((84, 5), 3, [(83, 1, 3), (83, 2, 4), (84, 4, 7), (84, 3, 4), (84, 2, 3), (75, 0, 3), (75, 1, 21), (75, 2, 25)]) : wW) xL_1 7 (none) xE_5 (xE_5.drop 22) [.ref 84, .ref 3, .int a2, .null, .null, .null, .null, .null, .null] [] (sa, sk, sf, sc, sz) Q) (h : w_5_22 (fun k => Tt d wdL (wk_5 3 k) (wk_5 3 k)) 3 R22 a2 sa sk sf sc sz Q) : Rn d wdL (((84, 5), 3, [(83, 1, 3), (83, 2, 4), (84, 4, 7), (84, 3, 4), (84, 2, 3), (75, 0, 3), (75, 1, 21), (75, 2, 25)]) : wW) (((84, 5), 3, [(83, 1, 3), (83, 2, 4), (84, 4, 7), (84, 3, 4), (84, 2, 3), (75, 0, 3), (75, 1, 21), (75, 2, 25)]) : wW) xL_1 7 (none) xE_5 (xE_5.drop 22) [.ref 84, .ref 3, .int a2, .null, .null, .null, .null, .null, .null] [] (sa, sk, sf, sc, sz) Q := by
  unfold w_5_22 at h
  refine n_ld rfl rfl rfl ?_
  refine n_ld rfl rfl rfl ?_
  refine n_get (v := .ref 3) rfl (hv_C (a := 84) (n := 4) rfl rfl rfl) ?_
  refine n_ctr [.ref 3] [.int a2] rfl rfl rfl (hc (45, q_45) (List.mem_of_getElem? (i := 1) rfl)) ⟨⟨_, rfl, cmem_ok rfl⟩, trivial⟩ rfl rfl (fun vq sq hv hk => ?_)
  obtain ⟨sa1, sk2, sf3, sc4, sz5⟩ := sq
  obtain ⟨k1, k2, k3, k4, k5, k6, k7⟩ := hk
  obtain rfl : sa = sa1 := (k1 (wmem_no rfl)).symm
  obtain rfl : sk = sk2 := (k2).symm
  obtain rfl : sf = sf3 := (k3 (wmem_no rfl)).symm
  obtain rfl : sc = sc4 := (k5 (wmem_no rfl)).symm
  obtain rfl : sz = sz5 := (k6 (wmem_no rfl)).symm
  obtain ⟨vr, rfl, x6, rfl, hl, hu⟩ := hv
  replace h := h x6 hl hu
  change Rn _ _ _ _ _ _ _ _ _ _ [.int x6, .int a2] _ _
  refine n_brP rfl rfl ⟨fun hcn => ?_, fun hcn => ?_⟩
  · replace h := h.1 ((i_le (x := x6) (y := a2) rfl rfl).mp hcn)
    exact k_5_95_3 hd hc  h
  · replace h := h.2 (fun q => hcn ((i_le (x := x6) (y := a2) rfl rfl).mpr q))
    refine n_ld rfl rfl rfl ?_
    refine n_get (v := .ref 3) rfl (hv_C (a := 84) (n := 4) rfl rfl rfl) ?_
    refine n_get (v := .int sf) rfl (hv_f (a := 3) rfl rfl (fun _ _ hw => hw.1.2.2.1)) ?_
    refine n_brN rfl rfl ⟨fun hcn => ?_, fun hcn => ?_⟩
    · replace h := h.1 (fun q => hcn ((i_eq (x := sf) (y := 0) rfl (show (0 : Int32).toInt = 0 by decide)).mpr q))
      exact k_5_95_3 hd hc  h
    · replace h := h.2 ((i_eq (x := sf) (y := 0) rfl (show (0 : Int32).toInt = 0 by decide)).mp hcn)
      refine n_ld rfl rfl rfl ?_
      refine n_ld rfl rfl rfl ?_
      refine n_tt [.ref 84, .int a2] [] rfl rfl rfl rfl (Tt.imp h (fun v12 sq h => ?_))
      obtain ⟨sa7, sk8, sf9, sc10, sz11⟩ := sq
      obtain ⟨rfl, h⟩ := h
      change Rn _ _ _ _ _ _ _ _ _ _ [] _ _
      refine n_ld rfl rfl rfl ?_
      refine n_get (v := .int sa7) rfl (hv_f (a := 84) rfl rfl (fun _ _ hw => hw.1.1)) ?_
      refine n_st [.ref 84, .ref 3, .int a2, .int sa7, .null, .null, .null, .null, .null] rfl rfl rfl ?_
      refine n_ld rfl rfl rfl ?_
      refine n_c [.int 1, .ref 84] (xo_push (.int 1)) rfl rfl ?_
      refine n_tt [.ref 84, .int 1] [] rfl rfl rfl rfl (Tt.imp h (fun v18 sq h => ?_))
      obtain ⟨sa13, sk14, sf15, sc16, sz17⟩ := sq
      obtain ⟨x19, rfl, h⟩ := h
      change Rn _ _ _ _ _ _ _ _ _ _ [.int x19] _ _
      refine n_st [.ref 84, .ref 3, .int a2, .int sa7, .int x19, .null, .null, .null, .null] rfl rfl rfl ?_
      refine n_ld rfl rfl rfl ?_
      refine n_get (v := .ref 3) rfl (hv_C (a := 84) (n := 4) rfl rfl rfl) ?_
      refine n_ld rfl rfl rfl ?_
      refine n_get (v := .ref 75) rfl (hv_R (a := 84) rfl rfl) ?_
      refine n_getI (a := 75) rfl rfl rfl (fun x20 hl hu => ?_)
      replace h := h x20
      refine n_c [.int 2, .int x20, .ref 3] (xo_push (.int 2)) rfl rfl ?_
      refine n_ctr [.ref 3, .int x20, .int 2] [] rfl rfl rfl (hc (41, q_41) (List.mem_of_getElem? (i := 2) rfl)) ⟨⟨_, rfl, cmem_ok rfl⟩, vK_int _, vK_int _, trivial⟩ rfl rfl (fun vq sq hv hk => ?_)
      obtain ⟨sa21, sk22, sf23, sc24, sz25⟩ := sq
      obtain ⟨k1, k2, k3, k4, k5, k6, k7⟩ := hk
      obtain rfl : sa13 = sa21 := (k1 (wmem_no rfl)).symm
      obtain rfl : sk14 = sk22 := (k2).symm
      obtain rfl : sf15 = sf23 := (k3 (wmem_no rfl)).symm
      obtain rfl : sc16 = sc24 := (k5 (wmem_no rfl)).symm
      obtain rfl : sz17 = sz25 := (k6 (wmem_no rfl)).symm
      obtain ⟨vr, rfl, x26, rfl, hl, hu⟩ := hv
      replace h := h x26 hl hu
      change Rn _ _ _ _ _ _ _ _ _ _ [.int x26] _ _
      refine n_ld rfl rfl rfl ?_
      refine n_get (v := .ref 3) rfl (hv_C (a := 84) (n := 4) rfl rfl rfl) ?_
      refine n_ld rfl rfl rfl ?_
      refine n_get (v := .ref 75) rfl (hv_R (a := 84) rfl rfl) ?_
      refine n_getI (a := 75) rfl rfl rfl (fun x27 hl hu => ?_)
      replace h := h x27
      refine n_c [.int 3, .int x27, .ref 3, .int x26] (xo_push (.int 3)) rfl rfl ?_
      refine n_ctr [.ref 3, .int x27, .int 3] [.int x26] rfl rfl rfl (hc (41, q_41) (List.mem_of_getElem? (i := 2) rfl)) ⟨⟨_, rfl, cmem_ok rfl⟩, vK_int _, vK_int _, trivial⟩ rfl rfl (fun vq sq hv hk => ?_)
      obtain ⟨sa28, sk29, sf30, sc31, sz32⟩ := sq
      obtain ⟨k1, k2, k3, k4, k5, k6, k7⟩ := hk
      obtain rfl : sa13 = sa28 := (k1 (wmem_no rfl)).symm
      obtain rfl : sk14 = sk29 := (k2).symm
      obtain rfl : sf15 = sf30 := (k3 (wmem_no rfl)).symm
      obtain rfl : sc16 = sc31 := (k5 (wmem_no rfl)).symm
      obtain rfl : sz17 = sz32 := (k6 (wmem_no rfl)).symm
      obtain ⟨vr, rfl, x33, rfl, hl, hu⟩ := hv
      replace h := h x33 hl hu
      change Rn _ _ _ _ _ _ _ _ _ _ [.int x33, .int x26] _ _
      replace h := h _ (i_add (x := x26) (y := x33) rfl rfl)
      refine n_c [.int (x26 + x33)] xo_iadd rfl rfl ?_
      refine n_st [.ref 84, .ref 3, .int a2, .int sa7, .int x19, .int (x26 + x33), .null, .null, .null] rfl rfl rfl ?_
      refine n_ld rfl rfl rfl ?_
      refine n_get (v := .ref 3) rfl (hv_C (a := 84) (n := 4) rfl rfl rfl) ?_
      refine n_ld rfl rfl rfl ?_
      refine n_ld rfl rfl rfl ?_
      refine n_get (v := .ref 3) rfl (hv_C (a := 84) (n := 4) rfl rfl rfl) ?_
      refine n_ld rfl rfl rfl ?_
      refine n_get (v := .ref 75) rfl (hv_R (a := 84) rfl rfl) ?_
      refine n_getI (a := 75) rfl rfl rfl (fun x35 hl hu => ?_)
      replace h := h x35
      refine n_c [.int 4, .int x35, .ref 3, .int (x26 + x33), .ref 3] (xo_push (.int 4)) rfl rfl ?_
      refine n_ctr [.ref 3, .int x35, .int 4] [.int (x26 + x33), .ref 3] rfl rfl rfl (hc (41, q_41) (List.mem_of_getElem? (i := 2) rfl)) ⟨⟨_, rfl, cmem_ok rfl⟩, vK_int _, vK_int _, trivial⟩ rfl rfl (fun vq sq hv hk => ?_)
      obtain ⟨sa36, sk37, sf38, sc39, sz40⟩ := sq
      obtain ⟨k1, k2, k3, k4, k5, k6, k7⟩ := hk
      obtain rfl : sa13 = sa36 := (k1 (wmem_no rfl)).symm
      obtain rfl : sk14 = sk37 := (k2).symm
      obtain rfl : sf15 = sf38 := (k3 (wmem_no rfl)).symm
      obtain rfl : sc16 = sc39 := (k5 (wmem_no rfl)).symm
      obtain rfl : sz17 = sz40 := (k6 (wmem_no rfl)).symm
      obtain ⟨vr, rfl, x41, rfl, hl, hu⟩ := hv
      replace h := h x41 hl hu
      change Rn _ _ _ _ _ _ _ _ _ _ [.int x41, .int (x26 + x33), .ref 3] _ _
      replace h := h _ (i_add (x := (x26 + x33)) (y := x41) rfl rfl)
      refine n_c [.int ((x26 + x33) + x41), .ref 3] xo_iadd rfl rfl ?_
      refine n_c [.int 3, .int ((x26 + x33) + x41), .ref 3] (xo_push (.int 3)) rfl rfl ?_
      refine n_ctr [.ref 3, .int ((x26 + x33) + x41), .int 3] [] rfl rfl rfl (hc (42, q_42) (List.mem_of_getElem? (i := 3) rfl)) ⟨⟨_, rfl, cmem_ok rfl⟩, vK_int _, vK_int _, trivial⟩ rfl rfl (fun vq sq hv hk => ?_)
      obtain ⟨sa43, sk44, sf45, sc46, sz47⟩ := sq
      obtain ⟨k1, k2, k3, k4, k5, k6, k7⟩ := hk
      obtain rfl : sa13 = sa43 := (k1 (wmem_no rfl)).symm
      obtain rfl : sk14 = sk44 := (k2).symm
      obtain rfl : sf15 = sf45 := (k3 (wmem_no rfl)).symm
      obtain rfl : sc16 = sc46 := (k5 (wmem_no rfl)).symm
      obtain rfl : sz17 = sz47 := (k6 (wmem_no rfl)).symm
      obtain ⟨vr, rfl, x48, rfl, hl, hu⟩ := hv
      replace h := h x48 hl hu
      change Rn _ _ _ _ _ _ _ _ _ _ [.int x48] _ _
      refine n_st [.ref 84, .ref 3, .int a2, .int sa7, .int x19, .int (x26 + x33), .int x48, .null, .null] rfl rfl rfl ?_
      refine n_ld rfl rfl rfl ?_
      refine n_get (v := .ref 3) rfl (hv_C (a := 84) (n := 4) rfl rfl rfl) ?_
      refine n_get (v := .int sf15) rfl (hv_f (a := 3) rfl rfl (fun _ _ hw => hw.1.2.2.1)) ?_
      refine n_brN rfl rfl ⟨fun hcn => ?_, fun hcn => ?_⟩
      · replace h := h.1 (fun q => hcn ((i_eq (x := sf15) (y := 0) rfl (show (0 : Int32).toInt = 0 by decide)).mpr q))
        exact k_5_84_3 hd hc r22 h
      · replace h := h.2 ((i_eq (x := sf15) (y := 0) rfl (show (0 : Int32).toInt = 0 by decide)).mp hcn)
        refine n_ld rfl rfl rfl ?_
        refine n_get (v := .ref 3) rfl (hv_C (a := 84) (n := 4) rfl rfl rfl) ?_
        refine n_ld rfl rfl rfl ?_
        refine n_get (v := .ref 75) rfl (hv_R (a := 84) rfl rfl) ?_
        refine n_ld rfl rfl rfl ?_
        refine n_ld rfl rfl rfl ?_
        refine n_ctr [.ref 75, .int x19, .int x48] [.ref 3] rfl rfl rfl (hc (88, q_88) (List.mem_of_getElem? (i := 4) rfl)) ⟨⟨_, rfl, cmem_ok rfl⟩, vK_int _, vK_int _, trivial⟩ rfl rfl (fun vq sq hv hk => ?_)
        obtain ⟨sa49, sk50, sf51, sc52, sz53⟩ := sq
        obtain ⟨k1, k2, k3, k4, k5, k6, k7⟩ := hk
        obtain rfl : sa13 = sa49 := (k1 (wmem_no rfl)).symm
        obtain rfl : sk14 = sk50 := (k2).symm
        obtain rfl : sf15 = sf51 := (k3 (wmem_no rfl)).symm
        obtain rfl : sc16 = sc52 := (k5 (wmem_no rfl)).symm
        obtain rfl : sz17 = sz53 := (k6 (wmem_no rfl)).symm
        obtain ⟨vr, rfl, x54, rfl, hl, hu⟩ := hv
        replace h := h x54 hl hu
        change Rn _ _ _ _ _ _ _ _ _ _ [.int x54, .ref 3] _ _
        refine n_ld rfl rfl rfl ?_
        refine n_tt [.ref 3, .int x54, .int sa7] [] rfl rfl rfl rfl (Tt.imp h (fun v60 sq h => ?_))
        obtain ⟨sa55, sk56, sf57, sc58, sz59⟩ := sq
        obtain ⟨rfl, h⟩ := h
        change Rn _ _ _ _ _ _ _ _ _ _ [] _ _
        exact k_5_84_3 hd hc r22 h
theorem kl_5_22_3 {d d0 : Nat} (hd : d = d0 + 4) (hc : ∀ p ∈ s_w5, CTR (yex d) p.1 p.2)  {a2 : Int32} {sa : Int32} {sk : Int32} {sf : Int32} {sc : Int32} {sz : Int32} {Q : Option Value → sW → Prop}  (h : wl_5_22 (fun k => Tt d wdL (wk_5 3 k) (wk_5 3 k)) 3  a2 sa sk sf sc sz Q) : Rn d wdL (((84, 5), 3, [(83, 1, 3), (83, 2, 4), (84, 4, 7), (84, 3, 4), (84, 2, 3), (75, 0, 3), (75, 1, 21), (75, 2, 25)]) : wW) (((84, 5), 3, [(83, 1, 3), (83, 2, 4), (84, 4, 7), (84, 3, 4), (84, 2, 3), (75, 0, 3), (75, 1, 21), (75, 2, 25)]) : wW) xL_1 7 (none) xE_5 (xE_5.drop 22) [.ref 84, .ref 3, .int a2, .null, .null, .null, .null, .null, .null] [] (sa, sk, sf, sc, sz) Q := by
  obtain ⟨I, μ, h0, h1⟩ := h
  have key : ∀ (n : Nat) (a2 : Int32) (sa : Int32) (sk : Int32) (sf : Int32) (sc : Int32) (sz : Int32), μ a2 sa sk sf sc sz = n → I a2 sa sk sf sc sz → Rn d wdL (((84, 5), 3, [(83, 1, 3), (83, 2, 4), (84, 4, 7), (84, 3, 4), (84, 2, 3), (75, 0, 3), (75, 1, 21), (75, 2, 25)]) : wW) (((84, 5), 3, [(83, 1, 3), (83, 2, 4), (84, 4, 7), (84, 3, 4), (84, 2, 3), (75, 0, 3), (75, 1, 21), (75, 2, 25)]) : wW) xL_1 7 (none) xE_5 (xE_5.drop 22) [.ref 84, .ref 3, .int a2, .null, .null, .null, .null, .null, .null] [] (sa, sk, sf, sc, sz) Q := by
    intro n
    induction n using Nat.strongRecOn with
    | ind n ih =>
      intro a2 sa sk sf sc sz e hI
      exact k_5_22_3 hd hc (fun a2' sa' sk' sf' sc' sz' q => ih _ (by rw [← e]; exact q.2) a2' sa' sk' sf' sc' sz' rfl q.1) (h1 a2 sa sk sf sc sz hI)
  exact key _ a2 sa sk sf sc sz rfl h0
set_option maxRecDepth 20000 in
theorem k_5_0_3 {d d0 : Nat} (hd : d = d0 + 4) (hc : ∀ p ∈ s_w5, CTR (yex d) p.1 p.2)  {sa : Int32} {sk : Int32} {sf : Int32} {sc : Int32} {sz : Int32} {Q : Option Value → sW → Prop}  (h : w_5_0 (fun k => Tt d wdL (wk_5 3 k) (wk_5 3 k)) 3  sa sk sf sc sz Q) : Rn d wdL (((84, 5), 3, [(75, 0, 3), (75, 1, 21), (75, 2, 25)]) : wW) (((84, 5), 3, [(83, 1, 3), (83, 2, 4), (84, 4, 7), (84, 3, 4), (84, 2, 3), (75, 0, 3), (75, 1, 21), (75, 2, 25)]) : wW) xL_1 7 (none) xE_5 (xE_5.drop 0) [.ref 84, .ref 3, .null, .null, .null, .null, .null, .null, .null] [] (sa, sk, sf, sc, sz) Q := by
  unfold w_5_0 at h
  refine n_ld rfl rfl rfl ?_
  refine n_ld rfl rfl rfl ?_
  refine n_put (a := 84) (w1 := (((84, 5), 3, [(84, 2, 3), (75, 0, 3), (75, 1, 21), (75, 2, 25)]) : wW)) (s1 := (sa, sk, sf, sc, sz)) rfl rfl rfl rfl ⟨_, rfl, cmem_ok rfl⟩ rfl rfl rfl (Or.inr (Or.inl (by decide +kernel))) (ws_cf (w := (((84, 5), 3, [(75, 0, 3), (75, 1, 21), (75, 2, 25)]) : wW)) (s := (sa, sk, sf, sc, sz)) (a := 84) (k := 2) (b := 3) rfl) ?_
  refine n_ld rfl rfl rfl ?_
  refine n_ld rfl rfl rfl ?_
  refine n_get (v := .ref 3) rfl (hv_C (a := 84) (n := 0) rfl rfl rfl) ?_
  refine n_get (v := .ref 4) rfl (hv_R (a := 3) rfl rfl) ?_
  refine n_put (a := 84) (w1 := (((84, 5), 3, [(84, 3, 4), (84, 2, 3), (75, 0, 3), (75, 1, 21), (75, 2, 25)]) : wW)) (s1 := (sa, sk, sf, sc, sz)) rfl rfl rfl rfl ⟨_, rfl, cmem_ok rfl⟩ rfl rfl rfl (Or.inr (Or.inl (by decide +kernel))) (ws_cf (w := (((84, 5), 3, [(84, 2, 3), (75, 0, 3), (75, 1, 21), (75, 2, 25)]) : wW)) (s := (sa, sk, sf, sc, sz)) (a := 84) (k := 3) (b := 4) rfl) ?_
  refine n_ld rfl rfl rfl ?_
  refine n_ld rfl rfl rfl ?_
  refine n_get (v := .ref 4) rfl (hv_C (a := 84) (n := 0) rfl rfl rfl) ?_
  refine n_get (v := .ref 7) rfl (hv_R (a := 4) rfl rfl) ?_
  refine n_put (a := 84) (w1 := (((84, 5), 3, [(84, 4, 7), (84, 3, 4), (84, 2, 3), (75, 0, 3), (75, 1, 21), (75, 2, 25)]) : wW)) (s1 := (sa, sk, sf, sc, sz)) rfl rfl rfl rfl ⟨_, rfl, cmem_ok rfl⟩ rfl rfl rfl (Or.inr (Or.inl (by decide +kernel))) (ws_cf (w := (((84, 5), 3, [(84, 3, 4), (84, 2, 3), (75, 0, 3), (75, 1, 21), (75, 2, 25)]) : wW)) (s := (sa, sk, sf, sc, sz)) (a := 84) (k := 4) (b := 7) rfl) ?_
  refine n_ld rfl rfl rfl ?_
  refine n_get (v := .ref 83) rfl (hv_R (a := 84) rfl rfl) ?_
  refine n_ld rfl rfl rfl ?_
  refine n_get (v := .ref 3) rfl (hv_C (a := 84) (n := 2) rfl rfl rfl) ?_
  refine n_ld rfl rfl rfl ?_
  refine n_get (v := .ref 4) rfl (hv_C (a := 84) (n := 1) rfl rfl rfl) ?_
  refine n_tt [.ref 83, .ref 3, .ref 4] [] (w1 := (((84, 5), 3, [(83, 1, 3), (83, 2, 4), (84, 4, 7), (84, 3, 4), (84, 2, 3), (75, 0, 3), (75, 1, 21), (75, 2, 25)]) : wW)) rfl rfl rfl rfl (Tt.imp (u_121 hd (P := 3) (T := 4) rfl rfl rfl) (fun v1 s1 hq => ?_))
  obtain ⟨rfl, rfl⟩ := hq
  change Rn _ _ _ _ _ _ _ _ _ _ [] _ _
  refine n_c [.int 0] (xo_push (.int 0)) rfl rfl ?_
  refine n_st [.ref 84, .ref 3, .int 0, .null, .null, .null, .null, .null, .null] rfl rfl rfl ?_
  exact kl_5_22_3 hd hc  h
theorem t_5_3 {d : Nat} (hc : ∀ p ∈ s_w5, CTR (yex (d + 4)) p.1 p.2) {sa : Int32} {sk : Int32} {sf : Int32} {sc : Int32} {sz : Int32} {Q : Option Value → sW → Prop} (h : w_5_0 (fun k => Tt (d + 4) wdL (wk_5 3 k) (wk_5 3 k)) 3 sa sk sf sc sz Q) : Tt (d + 5) wdL (((84, 5), 3, [(75, 0, 3), (75, 1, 21), (75, 2, 25)]) : wW) (((84, 5), 3, [(83, 1, 3), (83, 2, 4), (84, 4, 7), (84, 3, 4), (84, 2, 3), (75, 0, 3), (75, 1, 21), (75, 2, 25)]) : wW) 5 [.ref 84, .ref 3] (sa, sk, sf, sc, sz) Q := tt_of (E := xE_5) (L := xL_1) (ml := 7) (ret := none) rfl rfl rfl (k_5_0_3 rfl hc h)
set_option maxRecDepth 20000 in
theorem k_5_143_39 {d d0 : Nat} (hd : d = d0 + 4) (hc : ∀ p ∈ s_w5, CTR (yex d) p.1 p.2)  {a2 : Int32} {t1 : Int32} {sa : Int32} {sk : Int32} {sf : Int32} {sc : Int32} {sz : Int32} {Q : Option Value → sW → Prop}  (h : w_5_143 (fun k => Tt d wdL (wk_5 39 k) (wk_5 39 k)) 39  a2 t1 sa sk sf sc sz Q) : Rn d wdL (((84, 5), 39, [(83, 1, 39), (83, 2, 40), (84, 4, 43), (84, 3, 40), (84, 2, 39), (75, 0, 39), (75, 1, 57), (75, 2, 61)]) : wW) (((84, 5), 39, [(83, 1, 39), (83, 2, 40), (84, 4, 43), (84, 3, 40), (84, 2, 39), (75, 0, 39), (75, 1, 57), (75, 2, 61)]) : wW) xL_1 7 (none) xE_5 (xE_5.drop 143) [.ref 84, .ref 39, .int a2, .null, .null, .null, .null, .null, .null] [.int t1, .ref 39] (sa, sk, sf, sc, sz) Q := by
  unfold w_5_143 at h
  refine n_put (a := 39) (w1 := (((84, 5), 39, [(83, 1, 39), (83, 2, 40), (84, 4, 43), (84, 3, 40), (84, 2, 39), (75, 0, 39), (75, 1, 57), (75, 2, 61)]) : wW)) (s1 := (sa, sk, sf, sc, sz)) rfl rfl rfl rfl (vK_int _) rfl rfl rfl (Or.inr (Or.inl (by decide +kernel))) (ws_no (w := (((84, 5), 39, [(83, 1, 39), (83, 2, 40), (84, 4, 43), (84, 3, 40), (84, 2, 39), (75, 0, 39), (75, 1, 57), (75, 2, 61)]) : wW)) (s := (sa, sk, sf, sc, sz)) (a := 39) (k := 13) rfl) ?_
  refine n_ld rfl rfl rfl ?_
  refine n_get (v := .ref 39) rfl (hv_C (a := 84) (n := 4) rfl rfl rfl) ?_
  refine n_c [.int 0, .ref 39] (xo_push (.int 0)) rfl rfl ?_
  refine n_c [.int 0, .int 0, .ref 39] (xo_push (.int 0)) rfl rfl ?_
  refine n_c [.int 0, .int 0, .int 0, .ref 39] (xo_push (.int 0)) rfl rfl ?_
  refine n_c [.int 0, .int 0, .int 0, .int 0, .ref 39] (xo_push (.int 0)) rfl rfl ?_
  refine n_c [.int 0, .int 0, .int 0, .int 0, .int 0, .ref 39] (xo_push (.int 0)) rfl rfl ?_
  refine n_c [.int 0, .int 0, .int 0, .int 0, .int 0, .int 0, .ref 39] (xo_push (.int 0)) rfl rfl ?_
  refine n_tt [.ref 39, .int 0, .int 0, .int 0, .int 0, .int 0, .int 0] [] rfl rfl rfl rfl (Tt.imp h (fun v6 sq h => ?_))
  obtain ⟨sa1, sk2, sf3, sc4, sz5⟩ := sq
  obtain ⟨rfl, h⟩ := h
  change Rn _ _ _ _ _ _ _ _ _ _ [] _ _
  exact n_ret0 rfl h
set_option maxRecDepth 20000 in
theorem k_5_95_39 {d d0 : Nat} (hd : d = d0 + 4) (hc : ∀ p ∈ s_w5, CTR (yex d) p.1 p.2)  {a2 : Int32} {sa : Int32} {sk : Int32} {sf : Int32} {sc : Int32} {sz : Int32} {Q : Option Value → sW → Prop}  (h : w_5_95 (fun k => Tt d wdL (wk_5 39 k) (wk_5 39 k)) 39  a2 sa sk sf sc sz Q) : Rn d wdL (((84, 5), 39, [(83, 1, 39), (83, 2, 40), (84, 4, 43), (84, 3, 40), (84, 2, 39), (75, 0, 39), (75, 1, 57), (75, 2, 61)]) : wW) (((84, 5), 39, [(83, 1, 39), (83, 2, 40), (84, 4, 43), (84, 3, 40), (84, 2, 39), (75, 0, 39), (75, 1, 57), (75, 2, 61)]) : wW) xL_1 7 (none) xE_5 (xE_5.drop 95) [.ref 84, .ref 39, .int a2, .null, .null, .null, .null, .null, .null] [] (sa, sk, sf, sc, sz) Q := by
  unfold w_5_95 at h
  refine n_ld rfl rfl rfl ?_
  refine n_get (v := .ref 39) rfl (hv_C (a := 84) (n := 4) rfl rfl rfl) ?_
  refine n_get (v := .int sf) rfl (hv_f (a := 39) rfl rfl (fun _ _ hw => hw.1.2.2.1)) ?_
  refine n_brP rfl rfl ⟨fun hcn => ?_, fun hcn => ?_⟩
  · replace h := h.1 ((i_eq (x := sf) (y := 0) rfl (show (0 : Int32).toInt = 0 by decide)).mp hcn)
    refine n_ld rfl rfl rfl ?_
    refine n_c [.int (-1), .ref 84] (xo_push (.int (-1))) rfl rfl ?_
    refine n_put (a := 84) (w1 := (((84, 5), 39, [(83, 1, 39), (83, 2, 40), (84, 4, 43), (84, 3, 40), (84, 2, 39), (75, 0, 39), (75, 1, 57), (75, 2, 61)]) : wW)) (s1 := (sa, sk, sf, sc, sz)) rfl rfl rfl rfl (vK_int _) rfl rfl rfl (Or.inr (Or.inl (by decide +kernel))) (ws_no (w := (((84, 5), 39, [(83, 1, 39), (83, 2, 40), (84, 4, 43), (84, 3, 40), (84, 2, 39), (75, 0, 39), (75, 1, 57), (75, 2, 61)]) : wW)) (s := (sa, sk, sf, sc, sz)) (a := 84) (k := 6) rfl) ?_
    refine n_ld rfl rfl rfl ?_
    refine n_get (v := .ref 75) rfl (hv_R (a := 84) rfl rfl) ?_
    refine n_c [.int (-1), .ref 75] (xo_push (.int (-1))) rfl rfl ?_
    refine n_c [.int (-1), .int (-1), .ref 75] (xo_push (.int (-1))) rfl rfl ?_
    refine n_c [.int (-1), .int (-1), .int (-1), .ref 75] (xo_push (.int (-1))) rfl rfl ?_
    refine n_ctr [.ref 75, .int (-1), .int (-1), .int (-1)] [] rfl rfl rfl (hc (82, q_82) (List.mem_of_getElem? (i := 0) rfl)) ⟨⟨_, rfl, cmem_ok rfl⟩, vK_int _, vK_int _, vK_int _, trivial⟩ rfl rfl (fun vq sq hv hk => ?_)
    obtain ⟨sa1, sk2, sf3, sc4, sz5⟩ := sq
    obtain ⟨k1, k2, k3, k4, k5, k6, k7⟩ := hk
    obtain rfl : sa = sa1 := (k1 (wmem_no rfl)).symm
    obtain rfl : sk = sk2 := (k2).symm
    obtain rfl : sf = sf3 := (k3 (wmem_no rfl)).symm
    obtain rfl : sc = sc4 := (k5 (wmem_no rfl)).symm
    obtain rfl : sz = sz5 := (k6 (wmem_no rfl)).symm
    cases (show vq = none from hv)
    change Rn _ _ _ _ _ _ _ _ _ _ [] _ _
    refine n_ld rfl rfl rfl ?_
    refine n_get (v := .ref 75) rfl (hv_R (a := 84) rfl rfl) ?_
    refine n_c [.int 18, .ref 75] (xo_push (.int 18)) rfl rfl ?_
    refine n_put (a := 75) (w1 := (((84, 5), 39, [(83, 1, 39), (83, 2, 40), (84, 4, 43), (84, 3, 40), (84, 2, 39), (75, 0, 39), (75, 1, 57), (75, 2, 61)]) : wW)) (s1 := (sa, sk, sf, sc, sz)) rfl rfl rfl rfl (vK_int _) rfl rfl rfl (Or.inr (Or.inl (by decide +kernel))) (ws_no (w := (((84, 5), 39, [(83, 1, 39), (83, 2, 40), (84, 4, 43), (84, 3, 40), (84, 2, 39), (75, 0, 39), (75, 1, 57), (75, 2, 61)]) : wW)) (s := (sa, sk, sf, sc, sz)) (a := 75) (k := 3) rfl) ?_
    refine n_ld rfl rfl rfl ?_
    refine n_ld rfl rfl rfl ?_
    refine n_get (v := .ref 39) rfl (hv_C (a := 84) (n := 4) rfl rfl rfl) ?_
    refine n_getI (a := 39) rfl rfl rfl (fun x6 hl hu => ?_)
    replace h := h x6 hl hu
    refine n_put (a := 84) (w1 := (((84, 5), 39, [(83, 1, 39), (83, 2, 40), (84, 4, 43), (84, 3, 40), (84, 2, 39), (75, 0, 39), (75, 1, 57), (75, 2, 61)]) : wW)) (s1 := (x6, sk, sf, sc, sz)) rfl rfl rfl rfl (vK_int _) rfl rfl rfl (Or.inr (Or.inl (by decide +kernel))) (ws_at (w := (((84, 5), 39, [(83, 1, 39), (83, 2, 40), (84, 4, 43), (84, 3, 40), (84, 2, 39), (75, 0, 39), (75, 1, 57), (75, 2, 61)]) : wW)) (s := (sa, sk, sf, sc, sz)) rfl) ?_
    refine n_ld rfl rfl rfl ?_
    refine n_get (v := .ref 39) rfl (hv_C (a := 84) (n := 4) rfl rfl rfl) ?_
    refine n_ld rfl rfl rfl ?_
    refine n_get (v := .ref 39) rfl (hv_C (a := 84) (n := 4) rfl rfl rfl) ?_
    refine n_get (v := .ref 73) rfl (hv_R (a := 39) rfl rfl) ?_
    refine n_get (v := .int sc) rfl (hv_f (a := 73) rfl rfl (fun _ _ hw => hw.1.2.2.2.1)) ?_
    refine n_c [.int 6, .int sc, .ref 39] (xo_push (.int 6)) rfl rfl ?_
    replace h := h (sc / 6) (i_dv (x := sc) (y := 6) rfl (show (6 : Int32).toInt = 6 by decide) (by decide))
    refine n_c [.int (sc / 6), .ref 39] xo_idiv rfl (o_idiv (by decide)) ?_
    refine n_put (a := 39) (w1 := (((84, 5), 39, [(83, 1, 39), (83, 2, 40), (84, 4, 43), (84, 3, 40), (84, 2, 39), (75, 0, 39), (75, 1, 57), (75, 2, 61)]) : wW)) (s1 := (x6, sk, sf, sc, sz)) rfl rfl rfl rfl (vK_int _) rfl rfl rfl (Or.inr (Or.inl (by decide +kernel))) (ws_no (w := (((84, 5), 39, [(83, 1, 39), (83, 2, 40), (84, 4, 43), (84, 3, 40), (84, 2, 39), (75, 0, 39), (75, 1, 57), (75, 2, 61)]) : wW)) (s := (x6, sk, sf, sc, sz)) (a := 39) (k := 12) rfl) ?_
    refine n_ld rfl rfl rfl ?_
    refine n_c [.int 1, .ref 84] (xo_push (.int 1)) rfl rfl ?_
    refine n_tt [.ref 84, .int 1] [] rfl rfl rfl rfl (Tt.imp h (fun v13 sq h => ?_))
    obtain ⟨sa8, sk9, sf10, sc11, sz12⟩ := sq
    obtain ⟨x14, rfl, h⟩ := h
    change Rn _ _ _ _ _ _ _ _ _ _ [.int x14] _ _
    refine n_st [.ref 84, .ref 39, .int x14, .null, .null, .null, .null, .null, .null] rfl rfl rfl ?_
    refine n_ld rfl rfl rfl ?_
    refine n_get (v := .ref 39) rfl (hv_C (a := 84) (n := 4) rfl rfl rfl) ?_
    refine n_ld rfl rfl rfl ?_
    refine n_get (v := .ref 39) rfl (hv_C (a := 84) (n := 4) rfl rfl rfl) ?_
    refine n_get (v := .int sf10) rfl (hv_f (a := 39) rfl rfl (fun _ _ hw => hw.1.2.2.1)) ?_
    refine n_brN rfl rfl ⟨fun hcn => ?_, fun hcn => ?_⟩
    · replace h := h.1 (fun q => hcn ((i_eq (x := sf10) (y := 0) rfl (show (0 : Int32).toInt = 0 by decide)).mpr q))
      refine n_c [.int (-1), .ref 39] (xo_push (.int (-1))) rfl rfl ?_
      exact k_5_143_39 hd hc  h
    · replace h := h.2 ((i_eq (x := sf10) (y := 0) rfl (show (0 : Int32).toInt = 0 by decide)).mp hcn)
      refine n_ld rfl rfl rfl ?_
      refine n_get (v := .ref 75) rfl (hv_R (a := 84) rfl rfl) ?_
      refine n_ld rfl rfl rfl ?_
      refine n_tt [.ref 75, .int x14] [.ref 39] rfl rfl rfl rfl (Tt.imp h (fun v20 sq h => ?_))
      obtain ⟨sa15, sk16, sf17, sc18, sz19⟩ := sq
      obtain ⟨x21, rfl, h⟩ := h
      change Rn _ _ _ _ _ _ _ _ _ _ [.int x21, .ref 39] _ _
      refine n_go rfl ?_
      exact k_5_143_39 hd hc  h
  · replace h := h.2 (fun q => hcn ((i_eq (x := sf) (y := 0) rfl (show (0 : Int32).toInt = 0 by decide)).mpr q))
    exact n_ret0 rfl h
set_option maxRecDepth 20000 in
theorem k_5_84_39 {d d0 : Nat} (hd : d = d0 + 4) (hc : ∀ p ∈ s_w5, CTR (yex d) p.1 p.2) {R22 : Int32 → Int32 → Int32 → Int32 → Int32 → Int32 → Prop} {a2 : Int32} {a3 : Int32} {a4 : Int32} {a5 : Int32} {a6 : Int32} {sa : Int32} {sk : Int32} {sf : Int32} {sc : Int32} {sz : Int32} {Q : Option Value → sW → Prop} (r22 : ∀ a2 sa sk sf sc sz, R22 a2 sa sk sf sc sz → Rn d wdL (((84, 5), 39, [(83, 1, 39), (83, 2, 40), (84, 4, 43), (84, 3, 40), (84, 2, 39), (75, 0, 39), (75, 1, 57), (75, 2, 61)]) : wW) (((84, 5), 39, [(83, 1, 39), (83, 2, 40), (84, 4, 43), (84, 3, 40), (84, 2, 39), (75, 0, 39), (75, 1, 57), (75, 2, 61)]) : wW) xL_1 7 (none) xE_5 (xE_5.drop 22) [.ref 84, .ref 39, .int a2, .null, .null, .null, .null, .null, .null] [] (sa, sk, sf, sc, sz) Q) (h : w_5_84 (fun k => Tt d wdL (wk_5 39 k) (wk_5 39 k)) 39 R22 a2 a3 a4 a5 a6 sa sk sf sc sz Q) : Rn d wdL (((84, 5), 39, [(83, 1, 39), (83, 2, 40), (84, 4, 43), (84, 3, 40), (84, 2, 39), (75, 0, 39), (75, 1, 57), (75, 2, 61)]) : wW) (((84, 5), 39, [(83, 1, 39), (83, 2, 40), (84, 4, 43), (84, 3, 40), (84, 2, 39), (75, 0, 39), (75, 1, 57), (75, 2, 61)]) : wW) xL_1 7 (none) xE_5 (xE_5.drop 84) [.ref 84, .ref 39, .int a2, .int a3, .int a4, .int a5, .int a6, .null, .null] [] (sa, sk, sf, sc, sz) Q := by
  unfold w_5_84 at h
  refine n_ld rfl rfl rfl ?_
  refine n_get (v := .ref 39) rfl (hv_C (a := 84) (n := 4) rfl rfl rfl) ?_
  refine n_c [.int 0, .ref 39] (xo_push (.int 0)) rfl rfl ?_
  refine n_c [.int 0, .int 0, .ref 39] (xo_push (.int 0)) rfl rfl ?_
  refine n_c [.int 0, .int 0, .int 0, .ref 39] (xo_push (.int 0)) rfl rfl ?_
  refine n_c [.int 0, .int 0, .int 0, .int 0, .ref 39] (xo_push (.int 0)) rfl rfl ?_
  refine n_c [.int 0, .int 0, .int 0, .int 0, .int 0, .ref 39] (xo_push (.int 0)) rfl rfl ?_
  refine n_c [.int 0, .int 0, .int 0, .int 0, .int 0, .int 0, .ref 39] (xo_push (.int 0)) rfl rfl ?_
  refine n_tt [.ref 39, .int 0, .int 0, .int 0, .int 0, .int 0, .int 0] [] rfl rfl rfl rfl (Tt.imp h (fun v6 sq h => ?_))
  obtain ⟨sa1, sk2, sf3, sc4, sz5⟩ := sq
  obtain ⟨rfl, h⟩ := h
  change Rn _ _ _ _ _ _ _ _ _ _ [] _ _
  replace h := h _ (i_add (x := a2) (y := 1) rfl (show (1 : Int32).toInt = 1 by decide))
  refine n_inc [.ref 84, .ref 39, .int (a2 + 1), .int a3, .int a4, .int a5, .int a6, .null, .null] rfl rfl rfl rfl ?_
  refine n_go rfl ?_
  refine n_fg 3 ?_
  refine n_fg 4 ?_
  refine n_fg 5 ?_
  refine n_fg 6 ?_
  exact r22 (a2 + 1) sa1 sk2 sf3 sc4 sz5 h
set_option maxRecDepth 20000 in
theorem k_5_22_39 {d d0 : Nat} (hd : d = d0 + 4) (hc : ∀ p ∈ s_w5, CTR (yex d) p.1 p.2) {R22 : Int32 → Int32 → Int32 → Int32 → Int32 → Int32 → Prop} {a2 : Int32} {sa : Int32} {sk : Int32} {sf : Int32} {sc : Int32} {sz : Int32} {Q : Option Value → sW → Prop} (r22 : ∀ a2 sa sk sf sc sz, R22 a2 sa sk sf sc sz → Rn d wdL (((84, 5), 39, [(83, 1, 39), (83, 2, 40), (84, 4, 43), (84, 3, 40), (84, 2, 39), (75, 0, 39), (75, 1, 57), (75, 2, 61)]) : wW) (((84, 5), 39, [(83, 1, 39), (83, 2, 40), (84, 4, 43), (84, 3, 40), (84, 2, 39), (75, 0, 39), (75, 1, 57), (75, 2, 61)]) : wW) xL_1 7 (none) xE_5 (xE_5.drop 22) [.ref 84, .ref 39, .int a2, .null, .null, .null, .null, .null, .null] [] (sa, sk, sf, sc, sz) Q) (h : w_5_22 (fun k => Tt d wdL (wk_5 39 k) (wk_5 39 k)) 39 R22 a2 sa sk sf sc sz Q) : Rn d wdL (((84, 5), 39, [(83, 1, 39), (83, 2, 40), (84, 4, 43), (84, 3, 40), (84, 2, 39), (75, 0, 39), (75, 1, 57), (75, 2, 61)]) : wW) (((84, 5), 39, [(83, 1, 39), (83, 2, 40), (84, 4, 43), (84, 3, 40), (84, 2, 39), (75, 0, 39), (75, 1, 57), (75, 2, 61)]) : wW) xL_1 7 (none) xE_5 (xE_5.drop 22) [.ref 84, .ref 39, .int a2, .null, .null, .null, .null, .null, .null] [] (sa, sk, sf, sc, sz) Q := by
  unfold w_5_22 at h
  refine n_ld rfl rfl rfl ?_
  refine n_ld rfl rfl rfl ?_
  refine n_get (v := .ref 39) rfl (hv_C (a := 84) (n := 4) rfl rfl rfl) ?_
  refine n_ctr [.ref 39] [.int a2] rfl rfl rfl (hc (45, q_45) (List.mem_of_getElem? (i := 1) rfl)) ⟨⟨_, rfl, cmem_ok rfl⟩, trivial⟩ rfl rfl (fun vq sq hv hk => ?_)
  obtain ⟨sa1, sk2, sf3, sc4, sz5⟩ := sq
  obtain ⟨k1, k2, k3, k4, k5, k6, k7⟩ := hk
  obtain rfl : sa = sa1 := (k1 (wmem_no rfl)).symm
  obtain rfl : sk = sk2 := (k2).symm
  obtain rfl : sf = sf3 := (k3 (wmem_no rfl)).symm
  obtain rfl : sc = sc4 := (k5 (wmem_no rfl)).symm
  obtain rfl : sz = sz5 := (k6 (wmem_no rfl)).symm
  obtain ⟨vr, rfl, x6, rfl, hl, hu⟩ := hv
  replace h := h x6 hl hu
  change Rn _ _ _ _ _ _ _ _ _ _ [.int x6, .int a2] _ _
  refine n_brP rfl rfl ⟨fun hcn => ?_, fun hcn => ?_⟩
  · replace h := h.1 ((i_le (x := x6) (y := a2) rfl rfl).mp hcn)
    exact k_5_95_39 hd hc  h
  · replace h := h.2 (fun q => hcn ((i_le (x := x6) (y := a2) rfl rfl).mpr q))
    refine n_ld rfl rfl rfl ?_
    refine n_get (v := .ref 39) rfl (hv_C (a := 84) (n := 4) rfl rfl rfl) ?_
    refine n_get (v := .int sf) rfl (hv_f (a := 39) rfl rfl (fun _ _ hw => hw.1.2.2.1)) ?_
    refine n_brN rfl rfl ⟨fun hcn => ?_, fun hcn => ?_⟩
    · replace h := h.1 (fun q => hcn ((i_eq (x := sf) (y := 0) rfl (show (0 : Int32).toInt = 0 by decide)).mpr q))
      exact k_5_95_39 hd hc  h
    · replace h := h.2 ((i_eq (x := sf) (y := 0) rfl (show (0 : Int32).toInt = 0 by decide)).mp hcn)
      refine n_ld rfl rfl rfl ?_
      refine n_ld rfl rfl rfl ?_
      refine n_tt [.ref 84, .int a2] [] rfl rfl rfl rfl (Tt.imp h (fun v12 sq h => ?_))
      obtain ⟨sa7, sk8, sf9, sc10, sz11⟩ := sq
      obtain ⟨rfl, h⟩ := h
      change Rn _ _ _ _ _ _ _ _ _ _ [] _ _
      refine n_ld rfl rfl rfl ?_
      refine n_get (v := .int sa7) rfl (hv_f (a := 84) rfl rfl (fun _ _ hw => hw.1.1)) ?_
      refine n_st [.ref 84, .ref 39, .int a2, .int sa7, .null, .null, .null, .null, .null] rfl rfl rfl ?_
      refine n_ld rfl rfl rfl ?_
      refine n_c [.int 1, .ref 84] (xo_push (.int 1)) rfl rfl ?_
      refine n_tt [.ref 84, .int 1] [] rfl rfl rfl rfl (Tt.imp h (fun v18 sq h => ?_))
      obtain ⟨sa13, sk14, sf15, sc16, sz17⟩ := sq
      obtain ⟨x19, rfl, h⟩ := h
      change Rn _ _ _ _ _ _ _ _ _ _ [.int x19] _ _
      refine n_st [.ref 84, .ref 39, .int a2, .int sa7, .int x19, .null, .null, .null, .null] rfl rfl rfl ?_
      refine n_ld rfl rfl rfl ?_
      refine n_get (v := .ref 39) rfl (hv_C (a := 84) (n := 4) rfl rfl rfl) ?_
      refine n_ld rfl rfl rfl ?_
      refine n_get (v := .ref 75) rfl (hv_R (a := 84) rfl rfl) ?_
      refine n_getI (a := 75) rfl rfl rfl (fun x20 hl hu => ?_)
      replace h := h x20
      refine n_c [.int 2, .int x20, .ref 39] (xo_push (.int 2)) rfl rfl ?_
      refine n_ctr [.ref 39, .int x20, .int 2] [] rfl rfl rfl (hc (41, q_41) (List.mem_of_getElem? (i := 2) rfl)) ⟨⟨_, rfl, cmem_ok rfl⟩, vK_int _, vK_int _, trivial⟩ rfl rfl (fun vq sq hv hk => ?_)
      obtain ⟨sa21, sk22, sf23, sc24, sz25⟩ := sq
      obtain ⟨k1, k2, k3, k4, k5, k6, k7⟩ := hk
      obtain rfl : sa13 = sa21 := (k1 (wmem_no rfl)).symm
      obtain rfl : sk14 = sk22 := (k2).symm
      obtain rfl : sf15 = sf23 := (k3 (wmem_no rfl)).symm
      obtain rfl : sc16 = sc24 := (k5 (wmem_no rfl)).symm
      obtain rfl : sz17 = sz25 := (k6 (wmem_no rfl)).symm
      obtain ⟨vr, rfl, x26, rfl, hl, hu⟩ := hv
      replace h := h x26 hl hu
      change Rn _ _ _ _ _ _ _ _ _ _ [.int x26] _ _
      refine n_ld rfl rfl rfl ?_
      refine n_get (v := .ref 39) rfl (hv_C (a := 84) (n := 4) rfl rfl rfl) ?_
      refine n_ld rfl rfl rfl ?_
      refine n_get (v := .ref 75) rfl (hv_R (a := 84) rfl rfl) ?_
      refine n_getI (a := 75) rfl rfl rfl (fun x27 hl hu => ?_)
      replace h := h x27
      refine n_c [.int 3, .int x27, .ref 39, .int x26] (xo_push (.int 3)) rfl rfl ?_
      refine n_ctr [.ref 39, .int x27, .int 3] [.int x26] rfl rfl rfl (hc (41, q_41) (List.mem_of_getElem? (i := 2) rfl)) ⟨⟨_, rfl, cmem_ok rfl⟩, vK_int _, vK_int _, trivial⟩ rfl rfl (fun vq sq hv hk => ?_)
      obtain ⟨sa28, sk29, sf30, sc31, sz32⟩ := sq
      obtain ⟨k1, k2, k3, k4, k5, k6, k7⟩ := hk
      obtain rfl : sa13 = sa28 := (k1 (wmem_no rfl)).symm
      obtain rfl : sk14 = sk29 := (k2).symm
      obtain rfl : sf15 = sf30 := (k3 (wmem_no rfl)).symm
      obtain rfl : sc16 = sc31 := (k5 (wmem_no rfl)).symm
      obtain rfl : sz17 = sz32 := (k6 (wmem_no rfl)).symm
      obtain ⟨vr, rfl, x33, rfl, hl, hu⟩ := hv
      replace h := h x33 hl hu
      change Rn _ _ _ _ _ _ _ _ _ _ [.int x33, .int x26] _ _
      replace h := h _ (i_add (x := x26) (y := x33) rfl rfl)
      refine n_c [.int (x26 + x33)] xo_iadd rfl rfl ?_
      refine n_st [.ref 84, .ref 39, .int a2, .int sa7, .int x19, .int (x26 + x33), .null, .null, .null] rfl rfl rfl ?_
      refine n_ld rfl rfl rfl ?_
      refine n_get (v := .ref 39) rfl (hv_C (a := 84) (n := 4) rfl rfl rfl) ?_
      refine n_ld rfl rfl rfl ?_
      refine n_ld rfl rfl rfl ?_
      refine n_get (v := .ref 39) rfl (hv_C (a := 84) (n := 4) rfl rfl rfl) ?_
      refine n_ld rfl rfl rfl ?_
      refine n_get (v := .ref 75) rfl (hv_R (a := 84) rfl rfl) ?_
      refine n_getI (a := 75) rfl rfl rfl (fun x35 hl hu => ?_)
      replace h := h x35
      refine n_c [.int 4, .int x35, .ref 39, .int (x26 + x33), .ref 39] (xo_push (.int 4)) rfl rfl ?_
      refine n_ctr [.ref 39, .int x35, .int 4] [.int (x26 + x33), .ref 39] rfl rfl rfl (hc (41, q_41) (List.mem_of_getElem? (i := 2) rfl)) ⟨⟨_, rfl, cmem_ok rfl⟩, vK_int _, vK_int _, trivial⟩ rfl rfl (fun vq sq hv hk => ?_)
      obtain ⟨sa36, sk37, sf38, sc39, sz40⟩ := sq
      obtain ⟨k1, k2, k3, k4, k5, k6, k7⟩ := hk
      obtain rfl : sa13 = sa36 := (k1 (wmem_no rfl)).symm
      obtain rfl : sk14 = sk37 := (k2).symm
      obtain rfl : sf15 = sf38 := (k3 (wmem_no rfl)).symm
      obtain rfl : sc16 = sc39 := (k5 (wmem_no rfl)).symm
      obtain rfl : sz17 = sz40 := (k6 (wmem_no rfl)).symm
      obtain ⟨vr, rfl, x41, rfl, hl, hu⟩ := hv
      replace h := h x41 hl hu
      change Rn _ _ _ _ _ _ _ _ _ _ [.int x41, .int (x26 + x33), .ref 39] _ _
      replace h := h _ (i_add (x := (x26 + x33)) (y := x41) rfl rfl)
      refine n_c [.int ((x26 + x33) + x41), .ref 39] xo_iadd rfl rfl ?_
      refine n_c [.int 3, .int ((x26 + x33) + x41), .ref 39] (xo_push (.int 3)) rfl rfl ?_
      refine n_ctr [.ref 39, .int ((x26 + x33) + x41), .int 3] [] rfl rfl rfl (hc (42, q_42) (List.mem_of_getElem? (i := 3) rfl)) ⟨⟨_, rfl, cmem_ok rfl⟩, vK_int _, vK_int _, trivial⟩ rfl rfl (fun vq sq hv hk => ?_)
      obtain ⟨sa43, sk44, sf45, sc46, sz47⟩ := sq
      obtain ⟨k1, k2, k3, k4, k5, k6, k7⟩ := hk
      obtain rfl : sa13 = sa43 := (k1 (wmem_no rfl)).symm
      obtain rfl : sk14 = sk44 := (k2).symm
      obtain rfl : sf15 = sf45 := (k3 (wmem_no rfl)).symm
      obtain rfl : sc16 = sc46 := (k5 (wmem_no rfl)).symm
      obtain rfl : sz17 = sz47 := (k6 (wmem_no rfl)).symm
      obtain ⟨vr, rfl, x48, rfl, hl, hu⟩ := hv
      replace h := h x48 hl hu
      change Rn _ _ _ _ _ _ _ _ _ _ [.int x48] _ _
      refine n_st [.ref 84, .ref 39, .int a2, .int sa7, .int x19, .int (x26 + x33), .int x48, .null, .null] rfl rfl rfl ?_
      refine n_ld rfl rfl rfl ?_
      refine n_get (v := .ref 39) rfl (hv_C (a := 84) (n := 4) rfl rfl rfl) ?_
      refine n_get (v := .int sf15) rfl (hv_f (a := 39) rfl rfl (fun _ _ hw => hw.1.2.2.1)) ?_
      refine n_brN rfl rfl ⟨fun hcn => ?_, fun hcn => ?_⟩
      · replace h := h.1 (fun q => hcn ((i_eq (x := sf15) (y := 0) rfl (show (0 : Int32).toInt = 0 by decide)).mpr q))
        exact k_5_84_39 hd hc r22 h
      · replace h := h.2 ((i_eq (x := sf15) (y := 0) rfl (show (0 : Int32).toInt = 0 by decide)).mp hcn)
        refine n_ld rfl rfl rfl ?_
        refine n_get (v := .ref 39) rfl (hv_C (a := 84) (n := 4) rfl rfl rfl) ?_
        refine n_ld rfl rfl rfl ?_
        refine n_get (v := .ref 75) rfl (hv_R (a := 84) rfl rfl) ?_
        refine n_ld rfl rfl rfl ?_
        refine n_ld rfl rfl rfl ?_
        refine n_ctr [.ref 75, .int x19, .int x48] [.ref 39] rfl rfl rfl (hc (88, q_88) (List.mem_of_getElem? (i := 4) rfl)) ⟨⟨_, rfl, cmem_ok rfl⟩, vK_int _, vK_int _, trivial⟩ rfl rfl (fun vq sq hv hk => ?_)
        obtain ⟨sa49, sk50, sf51, sc52, sz53⟩ := sq
        obtain ⟨k1, k2, k3, k4, k5, k6, k7⟩ := hk
        obtain rfl : sa13 = sa49 := (k1 (wmem_no rfl)).symm
        obtain rfl : sk14 = sk50 := (k2).symm
        obtain rfl : sf15 = sf51 := (k3 (wmem_no rfl)).symm
        obtain rfl : sc16 = sc52 := (k5 (wmem_no rfl)).symm
        obtain rfl : sz17 = sz53 := (k6 (wmem_no rfl)).symm
        obtain ⟨vr, rfl, x54, rfl, hl, hu⟩ := hv
        replace h := h x54 hl hu
        change Rn _ _ _ _ _ _ _ _ _ _ [.int x54, .ref 39] _ _
        refine n_ld rfl rfl rfl ?_
        refine n_tt [.ref 39, .int x54, .int sa7] [] rfl rfl rfl rfl (Tt.imp h (fun v60 sq h => ?_))
        obtain ⟨sa55, sk56, sf57, sc58, sz59⟩ := sq
        obtain ⟨rfl, h⟩ := h
        change Rn _ _ _ _ _ _ _ _ _ _ [] _ _
        exact k_5_84_39 hd hc r22 h
theorem kl_5_22_39 {d d0 : Nat} (hd : d = d0 + 4) (hc : ∀ p ∈ s_w5, CTR (yex d) p.1 p.2)  {a2 : Int32} {sa : Int32} {sk : Int32} {sf : Int32} {sc : Int32} {sz : Int32} {Q : Option Value → sW → Prop}  (h : wl_5_22 (fun k => Tt d wdL (wk_5 39 k) (wk_5 39 k)) 39  a2 sa sk sf sc sz Q) : Rn d wdL (((84, 5), 39, [(83, 1, 39), (83, 2, 40), (84, 4, 43), (84, 3, 40), (84, 2, 39), (75, 0, 39), (75, 1, 57), (75, 2, 61)]) : wW) (((84, 5), 39, [(83, 1, 39), (83, 2, 40), (84, 4, 43), (84, 3, 40), (84, 2, 39), (75, 0, 39), (75, 1, 57), (75, 2, 61)]) : wW) xL_1 7 (none) xE_5 (xE_5.drop 22) [.ref 84, .ref 39, .int a2, .null, .null, .null, .null, .null, .null] [] (sa, sk, sf, sc, sz) Q := by
  obtain ⟨I, μ, h0, h1⟩ := h
  have key : ∀ (n : Nat) (a2 : Int32) (sa : Int32) (sk : Int32) (sf : Int32) (sc : Int32) (sz : Int32), μ a2 sa sk sf sc sz = n → I a2 sa sk sf sc sz → Rn d wdL (((84, 5), 39, [(83, 1, 39), (83, 2, 40), (84, 4, 43), (84, 3, 40), (84, 2, 39), (75, 0, 39), (75, 1, 57), (75, 2, 61)]) : wW) (((84, 5), 39, [(83, 1, 39), (83, 2, 40), (84, 4, 43), (84, 3, 40), (84, 2, 39), (75, 0, 39), (75, 1, 57), (75, 2, 61)]) : wW) xL_1 7 (none) xE_5 (xE_5.drop 22) [.ref 84, .ref 39, .int a2, .null, .null, .null, .null, .null, .null] [] (sa, sk, sf, sc, sz) Q := by
    intro n
    induction n using Nat.strongRecOn with
    | ind n ih =>
      intro a2 sa sk sf sc sz e hI
      exact k_5_22_39 hd hc (fun a2' sa' sk' sf' sc' sz' q => ih _ (by rw [← e]; exact q.2) a2' sa' sk' sf' sc' sz' rfl q.1) (h1 a2 sa sk sf sc sz hI)
  exact key _ a2 sa sk sf sc sz rfl h0
set_option maxRecDepth 20000 in
theorem k_5_0_39 {d d0 : Nat} (hd : d = d0 + 4) (hc : ∀ p ∈ s_w5, CTR (yex d) p.1 p.2)  {sa : Int32} {sk : Int32} {sf : Int32} {sc : Int32} {sz : Int32} {Q : Option Value → sW → Prop}  (h : w_5_0 (fun k => Tt d wdL (wk_5 39 k) (wk_5 39 k)) 39  sa sk sf sc sz Q) : Rn d wdL (((84, 5), 39, [(75, 0, 39), (75, 1, 57), (75, 2, 61)]) : wW) (((84, 5), 39, [(83, 1, 39), (83, 2, 40), (84, 4, 43), (84, 3, 40), (84, 2, 39), (75, 0, 39), (75, 1, 57), (75, 2, 61)]) : wW) xL_1 7 (none) xE_5 (xE_5.drop 0) [.ref 84, .ref 39, .null, .null, .null, .null, .null, .null, .null] [] (sa, sk, sf, sc, sz) Q := by
  unfold w_5_0 at h
  refine n_ld rfl rfl rfl ?_
  refine n_ld rfl rfl rfl ?_
  refine n_put (a := 84) (w1 := (((84, 5), 39, [(84, 2, 39), (75, 0, 39), (75, 1, 57), (75, 2, 61)]) : wW)) (s1 := (sa, sk, sf, sc, sz)) rfl rfl rfl rfl ⟨_, rfl, cmem_ok rfl⟩ rfl rfl rfl (Or.inr (Or.inl (by decide +kernel))) (ws_cf (w := (((84, 5), 39, [(75, 0, 39), (75, 1, 57), (75, 2, 61)]) : wW)) (s := (sa, sk, sf, sc, sz)) (a := 84) (k := 2) (b := 39) rfl) ?_
  refine n_ld rfl rfl rfl ?_
  refine n_ld rfl rfl rfl ?_
  refine n_get (v := .ref 39) rfl (hv_C (a := 84) (n := 0) rfl rfl rfl) ?_
  refine n_get (v := .ref 40) rfl (hv_R (a := 39) rfl rfl) ?_
  refine n_put (a := 84) (w1 := (((84, 5), 39, [(84, 3, 40), (84, 2, 39), (75, 0, 39), (75, 1, 57), (75, 2, 61)]) : wW)) (s1 := (sa, sk, sf, sc, sz)) rfl rfl rfl rfl ⟨_, rfl, cmem_ok rfl⟩ rfl rfl rfl (Or.inr (Or.inl (by decide +kernel))) (ws_cf (w := (((84, 5), 39, [(84, 2, 39), (75, 0, 39), (75, 1, 57), (75, 2, 61)]) : wW)) (s := (sa, sk, sf, sc, sz)) (a := 84) (k := 3) (b := 40) rfl) ?_
  refine n_ld rfl rfl rfl ?_
  refine n_ld rfl rfl rfl ?_
  refine n_get (v := .ref 40) rfl (hv_C (a := 84) (n := 0) rfl rfl rfl) ?_
  refine n_get (v := .ref 43) rfl (hv_R (a := 40) rfl rfl) ?_
  refine n_put (a := 84) (w1 := (((84, 5), 39, [(84, 4, 43), (84, 3, 40), (84, 2, 39), (75, 0, 39), (75, 1, 57), (75, 2, 61)]) : wW)) (s1 := (sa, sk, sf, sc, sz)) rfl rfl rfl rfl ⟨_, rfl, cmem_ok rfl⟩ rfl rfl rfl (Or.inr (Or.inl (by decide +kernel))) (ws_cf (w := (((84, 5), 39, [(84, 3, 40), (84, 2, 39), (75, 0, 39), (75, 1, 57), (75, 2, 61)]) : wW)) (s := (sa, sk, sf, sc, sz)) (a := 84) (k := 4) (b := 43) rfl) ?_
  refine n_ld rfl rfl rfl ?_
  refine n_get (v := .ref 83) rfl (hv_R (a := 84) rfl rfl) ?_
  refine n_ld rfl rfl rfl ?_
  refine n_get (v := .ref 39) rfl (hv_C (a := 84) (n := 2) rfl rfl rfl) ?_
  refine n_ld rfl rfl rfl ?_
  refine n_get (v := .ref 40) rfl (hv_C (a := 84) (n := 1) rfl rfl rfl) ?_
  refine n_tt [.ref 83, .ref 39, .ref 40] [] (w1 := (((84, 5), 39, [(83, 1, 39), (83, 2, 40), (84, 4, 43), (84, 3, 40), (84, 2, 39), (75, 0, 39), (75, 1, 57), (75, 2, 61)]) : wW)) rfl rfl rfl rfl (Tt.imp (u_121 hd (P := 39) (T := 40) rfl rfl rfl) (fun v1 s1 hq => ?_))
  obtain ⟨rfl, rfl⟩ := hq
  change Rn _ _ _ _ _ _ _ _ _ _ [] _ _
  refine n_c [.int 0] (xo_push (.int 0)) rfl rfl ?_
  refine n_st [.ref 84, .ref 39, .int 0, .null, .null, .null, .null, .null, .null] rfl rfl rfl ?_
  exact kl_5_22_39 hd hc  h
theorem t_5_39 {d : Nat} (hc : ∀ p ∈ s_w5, CTR (yex (d + 4)) p.1 p.2) {sa : Int32} {sk : Int32} {sf : Int32} {sc : Int32} {sz : Int32} {Q : Option Value → sW → Prop} (h : w_5_0 (fun k => Tt (d + 4) wdL (wk_5 39 k) (wk_5 39 k)) 39 sa sk sf sc sz Q) : Tt (d + 5) wdL (((84, 5), 39, [(75, 0, 39), (75, 1, 57), (75, 2, 61)]) : wW) (((84, 5), 39, [(83, 1, 39), (83, 2, 40), (84, 4, 43), (84, 3, 40), (84, 2, 39), (75, 0, 39), (75, 1, 57), (75, 2, 61)]) : wW) 5 [.ref 84, .ref 39] (sa, sk, sf, sc, sz) Q := tt_of (E := xE_5) (L := xL_1) (ml := 7) (ret := none) rfl rfl rfl (k_5_0_39 rfl hc h)
/-! FeatherBench$Asked.read -/
def wk_1 (P : Nat) : Nat → wW
  | 0 => (((84, 5), P, []) : wW)
  | _ => (((84, 5), P, [(83, 1, P), (83, 2, 86), (75, 0, P), (75, 1, (P + 18)), (75, 2, (P + 22))]) : wW)
def s_w1 : List (Nat × cSg) := [(135, q_135), (2, q_2)]
def w_1_106 (T : Nat → Nat → List Value → sW → (Option Value → sW → Prop) → Prop) (P : Nat)  (a2 : Int32) (a3 : Int32) (a4 : Int32) (a5 : Int32) (t0 : Int32) (sa : Int32) (sk : Int32) (sf : Int32) (sc : Int32) (sz : Int32) (Q : Option Value → sW → Prop) : Prop :=
  Q (some (.int t0)) (sa, sk, sf, sc, sz)
def w_1_97 (T : Nat → Nat → List Value → sW → (Option Value → sW → Prop) → Prop) (P : Nat)  (a2 : Int32) (a3 : Int32) (a4 : Int32) (a5 : Int32) (sa : Int32) (sk : Int32) (sf : Int32) (sc : Int32) (sz : Int32) (Q : Option Value → sW → Prop) : Prop :=
  (0 ≤ a4.toInt ∧ a4.toInt ≤ 2000000000) ∧ ((¬ (sf.toInt = 0) → w_1_106 T P  a2 a3 a4 a5 (-2) sa a4 sf sc sz Q) ∧ (sf.toInt = 0 → w_1_106 T P  a2 a3 a4 a5 0 sa a4 sf sc sz Q))
def w_1_77 (T : Nat → Nat → List Value → sW → (Option Value → sW → Prop) → Prop) (P : Nat) (R61 : Int32 → Int32 → Int32 → Int32 → Int32 → Int32 → Int32 → Int32 → Int32 → Prop) (a2 : Int32) (a3 : Int32) (a4 : Int32) (a5 : Int32) (a6 : Int32) (t1 : Int32) (sa : Int32) (sk : Int32) (sf : Int32) (sc : Int32) (sz : Int32) (Q : Option Value → sW → Prop) : Prop :=
  T 1 132 [.ref 83, .int a3, .int 1] (sa, sk, sf, sc, sz) (fun v6 (sa1, sk2, sf3, sc4, sz5) => ∃ x7, v6 = some (.int x7) ∧ (∀ x8 : Int32, (-2147483648 ≤ x7.toInt + 1 ∧ x7.toInt + 1 ≤ 2147483647 → x8.toInt = x7.toInt + 1) → (0 ≤ a6.toInt ∧ a6.toInt ≤ 2147483647) ∧ (∀ sf11 : Int32, (sf11.toInt = 0 → sf3.toInt = 0) → ∀ x14 : Int32, (-2147483648 ≤ a5.toInt + 1 ∧ a5.toInt + 1 ≤ 2147483647 → x14.toInt = a5.toInt + 1) → R61 a2 x8 a4 x14 sa1 sk2 sf11 sc4 sz5)))
def w_1_61 (T : Nat → Nat → List Value → sW → (Option Value → sW → Prop) → Prop) (P : Nat) (R61 : Int32 → Int32 → Int32 → Int32 → Int32 → Int32 → Int32 → Int32 → Int32 → Prop) (a2 : Int32) (a3 : Int32) (a4 : Int32) (a5 : Int32) (sa : Int32) (sk : Int32) (sf : Int32) (sc : Int32) (sz : Int32) (Q : Option Value → sW → Prop) : Prop :=
  (a2.toInt ≤ a5.toInt → w_1_97 T P  a2 a3 a4 a5 sa sk sf sc sz Q) ∧ (¬ (a2.toInt ≤ a5.toInt) → (¬ (sf.toInt = 0) → w_1_97 T P  a2 a3 a4 a5 sa sk sf sc sz Q) ∧ (sf.toInt = 0 → (¬ (a5.toInt = 0) → ∀ x1 : Int32, w_1_77 T P R61 a2 a3 a4 a5 sk x1 sa sk sf sc sz Q) ∧ (a5.toInt = 0 → w_1_77 T P R61 a2 a3 a4 a5 sk sk sa sk sf sc sz Q)))
def wl_1_61 (T : Nat → Nat → List Value → sW → (Option Value → sW → Prop) → Prop) (P : Nat)  (a2 : Int32) (a3 : Int32) (a4 : Int32) (a5 : Int32) (sa : Int32) (sk : Int32) (sf : Int32) (sc : Int32) (sz : Int32) (Q : Option Value → sW → Prop) : Prop :=
  ∃ (I : Int32 → Int32 → Int32 → Int32 → Int32 → Int32 → Int32 → Int32 → Int32 → Prop) (μ : Int32 → Int32 → Int32 → Int32 → Int32 → Int32 → Int32 → Int32 → Int32 → Nat), I a2 a3 a4 a5 sa sk sf sc sz ∧ ∀ (a2 : Int32) (a3 : Int32) (a4 : Int32) (a5 : Int32) (sa : Int32) (sk : Int32) (sf : Int32) (sc : Int32) (sz : Int32), I a2 a3 a4 a5 sa sk sf sc sz → w_1_61 T P (fun a2' a3' a4' a5' sa' sk' sf' sc' sz' => I a2' a3' a4' a5' sa' sk' sf' sc' sz' ∧ μ a2' a3' a4' a5' sa' sk' sf' sc' sz' < μ a2 a3 a4 a5 sa sk sf sc sz) a2 a3 a4 a5 sa sk sf sc sz Q
def w_1_30 (T : Nat → Nat → List Value → sW → (Option Value → sW → Prop) → Prop) (P : Nat)  (a2 : Int32) (a3 : Int32) (a4 : Int32) (sa : Int32) (sk : Int32) (sf : Int32) (sc : Int32) (sz : Int32) (Q : Option Value → sW → Prop) : Prop :=
  Q (some (.int (-1))) (sa, sk, sf, sc, sz)
def w_1_29 (T : Nat → Nat → List Value → sW → (Option Value → sW → Prop) → Prop) (P : Nat) (R7 : Int32 → Int32 → Int32 → Int32 → Int32 → Int32 → Int32 → Int32 → Prop) (a2 : Int32) (a3 : Int32) (a4 : Int32) (t0 : Int32) (t1 : Int32) (sa : Int32) (sk : Int32) (sf : Int32) (sc : Int32) (sz : Int32) (Q : Option Value → sW → Prop) : Prop :=
  (t0.toInt = t1.toInt → ∀ x1 : Int32, (-2147483648 ≤ a3.toInt + 1 ∧ a3.toInt + 1 ≤ 2147483647 → x1.toInt = a3.toInt + 1) → ∀ x2 : Int32, (-2147483648 ≤ a4.toInt + 1 ∧ a4.toInt + 1 ≤ 2147483647 → x2.toInt = a4.toInt + 1) → R7 a2 x1 x2 sa sk sf sc sz) ∧ (¬ (t0.toInt = t1.toInt) → w_1_30 T P  a2 a3 a4 sa sk sf sc sz Q)
def w_1_7 (T : Nat → Nat → List Value → sW → (Option Value → sW → Prop) → Prop) (P : Nat) (R7 : Int32 → Int32 → Int32 → Int32 → Int32 → Int32 → Int32 → Int32 → Prop) (a2 : Int32) (a3 : Int32) (a4 : Int32) (sa : Int32) (sk : Int32) (sf : Int32) (sc : Int32) (sz : Int32) (Q : Option Value → sW → Prop) : Prop :=
  (a2.toInt ≤ a4.toInt → ∀ x1 : Int32, 0 ≤ x1.toInt → x1.toInt ≤ 1 → (x1.toInt = 0 → wl_1_61 T P  a2 0 sk 0 sa sk 0 sc sz Q) ∧ (¬ (x1.toInt = 0) → Q (some (.int (-2))) (sa, sk, sf, sc, sz))) ∧ (¬ (a2.toInt ≤ a4.toInt) → ∀ x7 : Int32, (x7.toInt < 0 → w_1_30 T P  a2 x7 a4 sa sk sf sc sz Q) ∧ (¬ (x7.toInt < 0) → ∀ x8 : Int32, (¬ x8.toInt = 0 → 0 ≤ x7.toInt ∧ x7.toInt < 4002) → ∀ x9 : Int32, (-2147483648 ≤ a2.toInt - 1 ∧ a2.toInt - 1 ≤ 2147483647 → x9.toInt = a2.toInt - 1) → (x9.toInt ≤ a4.toInt → w_1_29 T P R7 a2 x7 a4 x8 0 sa sk sf sc sz Q) ∧ (¬ (x9.toInt ≤ a4.toInt) → w_1_29 T P R7 a2 x7 a4 x8 59 sa sk sf sc sz Q)))
def wl_1_7 (T : Nat → Nat → List Value → sW → (Option Value → sW → Prop) → Prop) (P : Nat)  (a2 : Int32) (a3 : Int32) (a4 : Int32) (sa : Int32) (sk : Int32) (sf : Int32) (sc : Int32) (sz : Int32) (Q : Option Value → sW → Prop) : Prop :=
  ∃ (I : Int32 → Int32 → Int32 → Int32 → Int32 → Int32 → Int32 → Int32 → Prop) (μ : Int32 → Int32 → Int32 → Int32 → Int32 → Int32 → Int32 → Int32 → Nat), I a2 a3 a4 sa sk sf sc sz ∧ ∀ (a2 : Int32) (a3 : Int32) (a4 : Int32) (sa : Int32) (sk : Int32) (sf : Int32) (sc : Int32) (sz : Int32), I a2 a3 a4 sa sk sf sc sz → w_1_7 T P (fun a2' a3' a4' sa' sk' sf' sc' sz' => I a2' a3' a4' sa' sk' sf' sc' sz' ∧ μ a2' a3' a4' sa' sk' sf' sc' sz' < μ a2 a3 a4 sa sk sf sc sz) a2 a3 a4 sa sk sf sc sz Q
def w_1_0 (T : Nat → Nat → List Value → sW → (Option Value → sW → Prop) → Prop) (P : Nat)  (a2 : Int32) (sa : Int32) (sk : Int32) (sf : Int32) (sc : Int32) (sz : Int32) (Q : Option Value → sW → Prop) : Prop :=
  wl_1_7 T P  a2 0 0 sa sk sf sc sz Q
set_option maxRecDepth 20000 in
theorem k_1_106_3 {d d0 : Nat} (hd : d = d0 + 6) (hc : ∀ p ∈ s_w1, CTR (yex d) p.1 p.2)  {a2 : Int32} {a3 : Int32} {a4 : Int32} {a5 : Int32} {t0 : Int32} {sa : Int32} {sk : Int32} {sf : Int32} {sc : Int32} {sz : Int32} {Q : Option Value → sW → Prop}  (h : w_1_106 (fun k => Tt d wdL (wk_1 3 k) (wk_1 3 k)) 3  a2 a3 a4 a5 t0 sa sk sf sc sz Q) : Rn d wdL (((84, 5), 3, [(83, 1, 3), (83, 2, 86), (75, 0, 3), (75, 1, 21), (75, 2, 25)]) : wW) (((84, 5), 3, []) : wW) xL_0 7 (some .int) xE_1 (xE_1.drop 106) [.ref 85, .ref 3, .int a2, .int a3, .int a4, .int a5, .null, .null, .null, .null] [.int t0] (sa, sk, sf, sc, sz) Q := by
  unfold w_1_106 at h
  refine n_wk (c := []) rfl ?_
  exact n_retI rfl h
set_option maxRecDepth 20000 in
theorem k_1_97_3 {d d0 : Nat} (hd : d = d0 + 6) (hc : ∀ p ∈ s_w1, CTR (yex d) p.1 p.2)  {a2 : Int32} {a3 : Int32} {a4 : Int32} {a5 : Int32} {sa : Int32} {sk : Int32} {sf : Int32} {sc : Int32} {sz : Int32} {Q : Option Value → sW → Prop}  (h : w_1_97 (fun k => Tt d wdL (wk_1 3 k) (wk_1 3 k)) 3  a2 a3 a4 a5 sa sk sf sc sz Q) : Rn d wdL (((84, 5), 3, [(83, 1, 3), (83, 2, 86), (75, 0, 3), (75, 1, 21), (75, 2, 25)]) : wW) (((84, 5), 3, []) : wW) xL_0 7 (some .int) xE_1 (xE_1.drop 97) [.ref 85, .ref 3, .int a2, .int a3, .int a4, .int a5, .null, .null, .null, .null] [] (sa, sk, sf, sc, sz) Q := by
  unfold w_1_97 at h
  refine n_ld rfl rfl rfl ?_
  refine n_ld rfl rfl rfl ?_
  refine n_put (a := 3) (w1 := (((84, 5), 3, [(83, 1, 3), (83, 2, 86), (75, 0, 3), (75, 1, 21), (75, 2, 25)]) : wW)) (s1 := (sa, a4, sf, sc, sz)) rfl rfl rfl rfl ⟨_, rfl, h.1.1, h.1.2⟩ rfl rfl rfl (Or.inr (Or.inl (by decide +kernel))) (ws_kp (w := (((84, 5), 3, [(83, 1, 3), (83, 2, 86), (75, 0, 3), (75, 1, 21), (75, 2, 25)]) : wW)) (s := (sa, sk, sf, sc, sz)) rfl) ?_
  replace h := h.2
  refine n_ld rfl rfl rfl ?_
  refine n_get (v := .int sf) rfl (hv_f (a := 3) rfl rfl (fun _ _ hw => hw.1.2.2.1)) ?_
  refine n_brN rfl rfl ⟨fun hcn => ?_, fun hcn => ?_⟩
  · replace h := h.1 (fun q => hcn ((i_eq (x := sf) (y := 0) rfl (show (0 : Int32).toInt = 0 by decide)).mpr q))
    refine n_c [.int (-2)] (xo_push (.int (-2))) rfl rfl ?_
    exact k_1_106_3 hd hc  h
  · replace h := h.2 ((i_eq (x := sf) (y := 0) rfl (show (0 : Int32).toInt = 0 by decide)).mp hcn)
    refine n_c [.int 0] (xo_push (.int 0)) rfl rfl ?_
    refine n_go rfl ?_
    exact k_1_106_3 hd hc  h
set_option maxRecDepth 20000 in
theorem k_1_77_3 {d d0 : Nat} (hd : d = d0 + 6) (hc : ∀ p ∈ s_w1, CTR (yex d) p.1 p.2) {R61 : Int32 → Int32 → Int32 → Int32 → Int32 → Int32 → Int32 → Int32 → Int32 → Prop} {a2 : Int32} {a3 : Int32} {a4 : Int32} {a5 : Int32} {a6 : Int32} {t1 : Int32} {sa : Int32} {sk : Int32} {sf : Int32} {sc : Int32} {sz : Int32} {Q : Option Value → sW → Prop} (r61 : ∀ a2 a3 a4 a5 sa sk sf sc sz, R61 a2 a3 a4 a5 sa sk sf sc sz → Rn d wdL (((84, 5), 3, [(83, 1, 3), (83, 2, 86), (75, 0, 3), (75, 1, 21), (75, 2, 25)]) : wW) (((84, 5), 3, []) : wW) xL_0 7 (some .int) xE_1 (xE_1.drop 61) [.ref 85, .ref 3, .int a2, .int a3, .int a4, .int a5, .null, .null, .null, .null] [] (sa, sk, sf, sc, sz) Q) (h : w_1_77 (fun k => Tt d wdL (wk_1 3 k) (wk_1 3 k)) 3 R61 a2 a3 a4 a5 a6 t1 sa sk sf sc sz Q) : Rn d wdL (((84, 5), 3, [(83, 1, 3), (83, 2, 86), (75, 0, 3), (75, 1, 21), (75, 2, 25)]) : wW) (((84, 5), 3, []) : wW) xL_0 7 (some .int) xE_1 (xE_1.drop 77) [.ref 85, .ref 3, .int a2, .int a3, .int a4, .int a5, .int a6, .null, .null, .null] [.int t1, .ref 85] (sa, sk, sf, sc, sz) Q := by
  unfold w_1_77 at h
  refine n_put (a := 85) (w1 := (((84, 5), 3, [(83, 1, 3), (83, 2, 86), (75, 0, 3), (75, 1, 21), (75, 2, 25)]) : wW)) (s1 := (sa, sk, sf, sc, sz)) rfl rfl rfl rfl (vK_int _) rfl rfl rfl (Or.inr (Or.inl (by decide +kernel))) (ws_no (w := (((84, 5), 3, [(83, 1, 3), (83, 2, 86), (75, 0, 3), (75, 1, 21), (75, 2, 25)]) : wW)) (s := (sa, sk, sf, sc, sz)) (a := 85) (k := 5) rfl) ?_
  refine n_ld rfl rfl rfl ?_
  refine n_ld rfl rfl rfl ?_
  refine n_put (a := 85) (w1 := (((84, 5), 3, [(83, 1, 3), (83, 2, 86), (75, 0, 3), (75, 1, 21), (75, 2, 25)]) : wW)) (s1 := (sa, sk, sf, sc, sz)) rfl rfl rfl rfl (vK_int _) rfl rfl rfl (Or.inr (Or.inl (by decide +kernel))) (ws_no (w := (((84, 5), 3, [(83, 1, 3), (83, 2, 86), (75, 0, 3), (75, 1, 21), (75, 2, 25)]) : wW)) (s := (sa, sk, sf, sc, sz)) (a := 85) (k := 6) rfl) ?_
  refine n_ld rfl rfl rfl ?_
  refine n_get (v := .ref 83) rfl (hv_R (a := 85) rfl rfl) ?_
  refine n_ld rfl rfl rfl ?_
  refine n_c [.int 1, .int a3, .ref 83] (xo_push (.int 1)) rfl rfl ?_
  refine n_tt [.ref 83, .int a3, .int 1] [] rfl rfl rfl rfl (Tt.imp h (fun v6 sq h => ?_))
  obtain ⟨sa1, sk2, sf3, sc4, sz5⟩ := sq
  obtain ⟨x7, rfl, h⟩ := h
  change Rn _ _ _ _ _ _ _ _ _ _ [.int x7] _ _
  refine n_c [.int 1, .int x7] (xo_push (.int 1)) rfl rfl ?_
  replace h := h _ (i_add (x := x7) (y := 1) rfl (show (1 : Int32).toInt = 1 by decide))
  refine n_c [.int (x7 + 1)] xo_iadd rfl rfl ?_
  refine n_st [.ref 85, .ref 3, .int a2, .int (x7 + 1), .int a4, .int a5, .int a6, .null, .null, .null] rfl rfl rfl ?_
  refine n_ld rfl rfl rfl ?_
  refine n_get (v := .ref 83) rfl (hv_R (a := 85) rfl rfl) ?_
  refine n_ld rfl rfl rfl ?_
  refine n_ld rfl rfl rfl ?_
  refine n_get (v := .int sk2) rfl (hv_f (a := 3) rfl rfl (fun _ _ hw => hw.1.2.1)) ?_
  refine n_ctr [.ref 83, .int a6, .int sk2] [] rfl rfl rfl (hc (135, q_135) (List.mem_of_getElem? (i := 0) rfl)) ⟨⟨_, rfl, cmem_ok rfl⟩, ⟨_, rfl, h.1.1, h.1.2⟩, vK_int _, trivial⟩ rfl rfl (fun vq sq hv hk => ?_)
  replace h := h.2
  obtain ⟨sa9, sk10, sf11, sc12, sz13⟩ := sq
  obtain ⟨k1, k2, k3, k4, k5, k6, k7⟩ := hk
  obtain rfl : sa1 = sa9 := (k1 (wmem_no rfl)).symm
  obtain rfl : sk2 = sk10 := (k2).symm
  replace h := h sf11 (k4 (wmem_no rfl))
  obtain rfl : sc4 = sc12 := (k5 (wmem_no rfl)).symm
  obtain rfl : sz5 = sz13 := (k6 (wmem_no rfl)).symm
  cases (show vq = none from hv)
  change Rn _ _ _ _ _ _ _ _ _ _ [] _ _
  replace h := h _ (i_add (x := a5) (y := 1) rfl (show (1 : Int32).toInt = 1 by decide))
  refine n_inc [.ref 85, .ref 3, .int a2, .int (x7 + 1), .int a4, .int (a5 + 1), .int a6, .null, .null, .null] rfl rfl rfl rfl ?_
  refine n_go rfl ?_
  refine n_fg 6 ?_
  exact r61 a2 (x7 + 1) a4 (a5 + 1) sa1 sk2 sf11 sc4 sz5 h
set_option maxRecDepth 20000 in
theorem k_1_61_3 {d d0 : Nat} (hd : d = d0 + 6) (hc : ∀ p ∈ s_w1, CTR (yex d) p.1 p.2) {R61 : Int32 → Int32 → Int32 → Int32 → Int32 → Int32 → Int32 → Int32 → Int32 → Prop} {a2 : Int32} {a3 : Int32} {a4 : Int32} {a5 : Int32} {sa : Int32} {sk : Int32} {sf : Int32} {sc : Int32} {sz : Int32} {Q : Option Value → sW → Prop} (r61 : ∀ a2 a3 a4 a5 sa sk sf sc sz, R61 a2 a3 a4 a5 sa sk sf sc sz → Rn d wdL (((84, 5), 3, [(83, 1, 3), (83, 2, 86), (75, 0, 3), (75, 1, 21), (75, 2, 25)]) : wW) (((84, 5), 3, []) : wW) xL_0 7 (some .int) xE_1 (xE_1.drop 61) [.ref 85, .ref 3, .int a2, .int a3, .int a4, .int a5, .null, .null, .null, .null] [] (sa, sk, sf, sc, sz) Q) (h : w_1_61 (fun k => Tt d wdL (wk_1 3 k) (wk_1 3 k)) 3 R61 a2 a3 a4 a5 sa sk sf sc sz Q) : Rn d wdL (((84, 5), 3, [(83, 1, 3), (83, 2, 86), (75, 0, 3), (75, 1, 21), (75, 2, 25)]) : wW) (((84, 5), 3, []) : wW) xL_0 7 (some .int) xE_1 (xE_1.drop 61) [.ref 85, .ref 3, .int a2, .int a3, .int a4, .int a5, .null, .null, .null, .null] [] (sa, sk, sf, sc, sz) Q := by
  unfold w_1_61 at h
  refine n_ld rfl rfl rfl ?_
  refine n_ld rfl rfl rfl ?_
  refine n_brP rfl rfl ⟨fun hcn => ?_, fun hcn => ?_⟩
  · replace h := h.1 ((i_le (x := a2) (y := a5) rfl rfl).mp hcn)
    exact k_1_97_3 hd hc  h
  · replace h := h.2 (fun q => hcn ((i_le (x := a2) (y := a5) rfl rfl).mpr q))
    refine n_ld rfl rfl rfl ?_
    refine n_get (v := .int sf) rfl (hv_f (a := 3) rfl rfl (fun _ _ hw => hw.1.2.2.1)) ?_
    refine n_brN rfl rfl ⟨fun hcn => ?_, fun hcn => ?_⟩
    · replace h := h.1 (fun q => hcn ((i_eq (x := sf) (y := 0) rfl (show (0 : Int32).toInt = 0 by decide)).mpr q))
      exact k_1_97_3 hd hc  h
    · replace h := h.2 ((i_eq (x := sf) (y := 0) rfl (show (0 : Int32).toInt = 0 by decide)).mp hcn)
      refine n_ld rfl rfl rfl ?_
      refine n_get (v := .int sk) rfl (hv_f (a := 3) rfl rfl (fun _ _ hw => hw.1.2.1)) ?_
      refine n_st [.ref 85, .ref 3, .int a2, .int a3, .int a4, .int a5, .int sk, .null, .null, .null] rfl rfl rfl ?_
      refine n_ld rfl rfl rfl ?_
      refine n_ld rfl rfl rfl ?_
      refine n_brN rfl rfl ⟨fun hcn => ?_, fun hcn => ?_⟩
      · replace h := h.1 (fun q => hcn ((i_eq (x := a5) (y := 0) rfl (show (0 : Int32).toInt = 0 by decide)).mpr q))
        refine n_ld rfl rfl rfl ?_
        refine n_getI (a := 85) rfl rfl rfl (fun x1 hl hu => ?_)
        replace h := h x1
        exact k_1_77_3 hd hc r61 h
      · replace h := h.2 ((i_eq (x := a5) (y := 0) rfl (show (0 : Int32).toInt = 0 by decide)).mp hcn)
        refine n_ld rfl rfl rfl ?_
        refine n_go rfl ?_
        exact k_1_77_3 hd hc r61 h
theorem kl_1_61_3 {d d0 : Nat} (hd : d = d0 + 6) (hc : ∀ p ∈ s_w1, CTR (yex d) p.1 p.2)  {a2 : Int32} {a3 : Int32} {a4 : Int32} {a5 : Int32} {sa : Int32} {sk : Int32} {sf : Int32} {sc : Int32} {sz : Int32} {Q : Option Value → sW → Prop}  (h : wl_1_61 (fun k => Tt d wdL (wk_1 3 k) (wk_1 3 k)) 3  a2 a3 a4 a5 sa sk sf sc sz Q) : Rn d wdL (((84, 5), 3, [(83, 1, 3), (83, 2, 86), (75, 0, 3), (75, 1, 21), (75, 2, 25)]) : wW) (((84, 5), 3, []) : wW) xL_0 7 (some .int) xE_1 (xE_1.drop 61) [.ref 85, .ref 3, .int a2, .int a3, .int a4, .int a5, .null, .null, .null, .null] [] (sa, sk, sf, sc, sz) Q := by
  obtain ⟨I, μ, h0, h1⟩ := h
  have key : ∀ (n : Nat) (a2 : Int32) (a3 : Int32) (a4 : Int32) (a5 : Int32) (sa : Int32) (sk : Int32) (sf : Int32) (sc : Int32) (sz : Int32), μ a2 a3 a4 a5 sa sk sf sc sz = n → I a2 a3 a4 a5 sa sk sf sc sz → Rn d wdL (((84, 5), 3, [(83, 1, 3), (83, 2, 86), (75, 0, 3), (75, 1, 21), (75, 2, 25)]) : wW) (((84, 5), 3, []) : wW) xL_0 7 (some .int) xE_1 (xE_1.drop 61) [.ref 85, .ref 3, .int a2, .int a3, .int a4, .int a5, .null, .null, .null, .null] [] (sa, sk, sf, sc, sz) Q := by
    intro n
    induction n using Nat.strongRecOn with
    | ind n ih =>
      intro a2 a3 a4 a5 sa sk sf sc sz e hI
      exact k_1_61_3 hd hc (fun a2' a3' a4' a5' sa' sk' sf' sc' sz' q => ih _ (by rw [← e]; exact q.2) a2' a3' a4' a5' sa' sk' sf' sc' sz' rfl q.1) (h1 a2 a3 a4 a5 sa sk sf sc sz hI)
  exact key _ a2 a3 a4 a5 sa sk sf sc sz rfl h0
set_option maxRecDepth 20000 in
theorem k_1_30_3 {d d0 : Nat} (hd : d = d0 + 6) (hc : ∀ p ∈ s_w1, CTR (yex d) p.1 p.2)  {a2 : Int32} {a3 : Int32} {a4 : Int32} {sa : Int32} {sk : Int32} {sf : Int32} {sc : Int32} {sz : Int32} {Q : Option Value → sW → Prop}  (h : w_1_30 (fun k => Tt d wdL (wk_1 3 k) (wk_1 3 k)) 3  a2 a3 a4 sa sk sf sc sz Q) : Rn d wdL (((84, 5), 3, []) : wW) (((84, 5), 3, []) : wW) xL_0 7 (some .int) xE_1 (xE_1.drop 30) [.ref 85, .ref 3, .int a2, .int a3, .int a4, .null, .null, .null, .null, .null] [] (sa, sk, sf, sc, sz) Q := by
  unfold w_1_30 at h
  refine n_c [.int (-1)] (xo_push (.int (-1))) rfl rfl ?_
  exact n_retI rfl h
set_option maxRecDepth 20000 in
theorem k_1_29_3 {d d0 : Nat} (hd : d = d0 + 6) (hc : ∀ p ∈ s_w1, CTR (yex d) p.1 p.2) {R7 : Int32 → Int32 → Int32 → Int32 → Int32 → Int32 → Int32 → Int32 → Prop} {a2 : Int32} {a3 : Int32} {a4 : Int32} {t0 : Int32} {t1 : Int32} {sa : Int32} {sk : Int32} {sf : Int32} {sc : Int32} {sz : Int32} {Q : Option Value → sW → Prop} (r7 : ∀ a2 a3 a4 sa sk sf sc sz, R7 a2 a3 a4 sa sk sf sc sz → Rn d wdL (((84, 5), 3, []) : wW) (((84, 5), 3, []) : wW) xL_0 7 (some .int) xE_1 (xE_1.drop 7) [.ref 85, .ref 3, .int a2, .int a3, .int a4, .null, .null, .null, .null, .null] [] (sa, sk, sf, sc, sz) Q) (h : w_1_29 (fun k => Tt d wdL (wk_1 3 k) (wk_1 3 k)) 3 R7 a2 a3 a4 t0 t1 sa sk sf sc sz Q) : Rn d wdL (((84, 5), 3, []) : wW) (((84, 5), 3, []) : wW) xL_0 7 (some .int) xE_1 (xE_1.drop 29) [.ref 85, .ref 3, .int a2, .int a3, .int a4, .null, .null, .null, .null, .null] [.int t1, .int t0] (sa, sk, sf, sc, sz) Q := by
  unfold w_1_29 at h
  refine n_brP rfl rfl ⟨fun hcn => ?_, fun hcn => ?_⟩
  · replace h := h.1 ((i_eq (x := t0) (y := t1) rfl rfl).mp hcn)
    replace h := h _ (i_add (x := a3) (y := 1) rfl (show (1 : Int32).toInt = 1 by decide))
    refine n_inc [.ref 85, .ref 3, .int a2, .int (a3 + 1), .int a4, .null, .null, .null, .null, .null] rfl rfl rfl rfl ?_
    replace h := h _ (i_add (x := a4) (y := 1) rfl (show (1 : Int32).toInt = 1 by decide))
    refine n_inc [.ref 85, .ref 3, .int a2, .int (a3 + 1), .int (a4 + 1), .null, .null, .null, .null, .null] rfl rfl rfl rfl ?_
    refine n_go rfl ?_
    exact r7 a2 (a3 + 1) (a4 + 1) sa sk sf sc sz h
  · replace h := h.2 (fun q => hcn ((i_eq (x := t0) (y := t1) rfl rfl).mpr q))
    exact k_1_30_3 hd hc  h
set_option maxRecDepth 20000 in
theorem k_1_7_3 {d d0 : Nat} (hd : d = d0 + 6) (hc : ∀ p ∈ s_w1, CTR (yex d) p.1 p.2) {R7 : Int32 → Int32 → Int32 → Int32 → Int32 → Int32 → Int32 → Int32 → Prop} {a2 : Int32} {a3 : Int32} {a4 : Int32} {sa : Int32} {sk : Int32} {sf : Int32} {sc : Int32} {sz : Int32} {Q : Option Value → sW → Prop} (r7 : ∀ a2 a3 a4 sa sk sf sc sz, R7 a2 a3 a4 sa sk sf sc sz → Rn d wdL (((84, 5), 3, []) : wW) (((84, 5), 3, []) : wW) xL_0 7 (some .int) xE_1 (xE_1.drop 7) [.ref 85, .ref 3, .int a2, .int a3, .int a4, .null, .null, .null, .null, .null] [] (sa, sk, sf, sc, sz) Q) (h : w_1_7 (fun k => Tt d wdL (wk_1 3 k) (wk_1 3 k)) 3 R7 a2 a3 a4 sa sk sf sc sz Q) : Rn d wdL (((84, 5), 3, []) : wW) (((84, 5), 3, []) : wW) xL_0 7 (some .int) xE_1 (xE_1.drop 7) [.ref 85, .ref 3, .int a2, .int a3, .int a4, .null, .null, .null, .null, .null] [] (sa, sk, sf, sc, sz) Q := by
  unfold w_1_7 at h
  refine n_ld rfl rfl rfl ?_
  refine n_ld rfl rfl rfl ?_
  refine n_brP rfl rfl ⟨fun hcn => ?_, fun hcn => ?_⟩
  · replace h := h.1 ((i_le (x := a2) (y := a4) rfl rfl).mp hcn)
    refine n_ld rfl rfl rfl ?_
    refine n_getI (a := 85) rfl rfl rfl (fun x1 hl hu => ?_)
    replace h := h x1 hl hu
    refine n_brP rfl rfl ⟨fun hcn => ?_, fun hcn => ?_⟩
    · replace h := h.1 ((i_eq (x := x1) (y := 0) rfl (show (0 : Int32).toInt = 0 by decide)).mp hcn)
      refine n_ld rfl rfl rfl ?_
      refine n_get (v := .ref 75) rfl (hv_R (a := 85) rfl rfl) ?_
      refine n_ld rfl rfl rfl ?_
      refine n_c [.int 18, .ref 3, .ref 75] (xo_push (.int 18)) rfl rfl ?_
      refine n_tt [.ref 75, .ref 3, .int 18] [] (w1 := (((84, 5), 3, [(75, 0, 3), (75, 1, 21), (75, 2, 25)]) : wW)) rfl rfl rfl rfl (Tt.imp (u_81 hd (P := 3) rfl rfl rfl) (fun v1 s1 hq => ?_))
      obtain ⟨rfl, rfl⟩ := hq
      change Rn _ _ _ _ _ _ _ _ _ _ [] _ _
      refine n_ld rfl rfl rfl ?_
      refine n_get (v := .ref 83) rfl (hv_R (a := 85) rfl rfl) ?_
      refine n_ld rfl rfl rfl ?_
      refine n_ld rfl rfl rfl ?_
      refine n_get (v := .ref 86) rfl (hv_R (a := 85) rfl rfl) ?_
      refine n_tt [.ref 83, .ref 3, .ref 86] [] (w1 := (((84, 5), 3, [(83, 1, 3), (83, 2, 86), (75, 0, 3), (75, 1, 21), (75, 2, 25)]) : wW)) rfl rfl rfl rfl (Tt.imp (u_121 hd (P := 3) (T := 86) rfl rfl rfl) (fun v1 s1 hq => ?_))
      obtain ⟨rfl, rfl⟩ := hq
      change Rn _ _ _ _ _ _ _ _ _ _ [] _ _
      refine n_ld rfl rfl rfl ?_
      refine n_c [.int 0, .ref 3] (xo_push (.int 0)) rfl rfl ?_
      refine n_put (a := 3) (w1 := (((84, 5), 3, [(83, 1, 3), (83, 2, 86), (75, 0, 3), (75, 1, 21), (75, 2, 25)]) : wW)) (s1 := (sa, sk, 0, sc, sz)) rfl rfl rfl rfl (vK_int _) rfl rfl rfl (Or.inl (wmem_ok rfl)) (ws_fl (w := (((84, 5), 3, [(83, 1, 3), (83, 2, 86), (75, 0, 3), (75, 1, 21), (75, 2, 25)]) : wW)) (s := (sa, sk, sf, sc, sz)) rfl) ?_
      refine n_ld rfl rfl rfl ?_
      refine n_get (v := .int sk) rfl (hv_f (a := 3) rfl rfl (fun _ _ hw => hw.1.2.1)) ?_
      refine n_st [.ref 85, .ref 3, .int a2, .int a3, .int sk, .null, .null, .null, .null, .null] rfl rfl rfl ?_
      refine n_c [.int 0] (xo_push (.int 0)) rfl rfl ?_
      refine n_st [.ref 85, .ref 3, .int a2, .int 0, .int sk, .null, .null, .null, .null, .null] rfl rfl rfl ?_
      refine n_c [.int 0] (xo_push (.int 0)) rfl rfl ?_
      refine n_st [.ref 85, .ref 3, .int a2, .int 0, .int sk, .int 0, .null, .null, .null, .null] rfl rfl rfl ?_
      exact kl_1_61_3 hd hc  h
    · replace h := h.2 (fun q => hcn ((i_eq (x := x1) (y := 0) rfl (show (0 : Int32).toInt = 0 by decide)).mpr q))
      refine n_c [.int (-2)] (xo_push (.int (-2))) rfl rfl ?_
      exact n_retI rfl h
  · replace h := h.2 (fun q => hcn ((i_le (x := a2) (y := a4) rfl rfl).mpr q))
    refine n_ld rfl rfl rfl ?_
    refine n_ld rfl rfl rfl ?_
    refine n_ctr [.ref 85, .int a3] [] rfl rfl rfl (hc (2, q_2) (List.mem_of_getElem? (i := 1) rfl)) ⟨⟨_, rfl, cmem_ok rfl⟩, vK_int _, trivial⟩ rfl rfl (fun vq sq hv hk => ?_)
    obtain ⟨sa2, sk3, sf4, sc5, sz6⟩ := sq
    obtain ⟨k1, k2, k3, k4, k5, k6, k7⟩ := hk
    obtain rfl : sa = sa2 := (k1 (wmem_no rfl)).symm
    obtain rfl : sk = sk3 := (k2).symm
    obtain rfl : sf = sf4 := (k3 (wmem_no rfl)).symm
    obtain rfl : sc = sc5 := (k5 (wmem_no rfl)).symm
    obtain rfl : sz = sz6 := (k6 (wmem_no rfl)).symm
    obtain ⟨vr, rfl, x7, rfl, hl, hu⟩ := hv
    replace h := h x7
    change Rn _ _ _ _ _ _ _ _ _ _ [.int x7] _ _
    refine n_st [.ref 85, .ref 3, .int a2, .int x7, .int a4, .null, .null, .null, .null, .null] rfl rfl rfl ?_
    refine n_ld rfl rfl rfl ?_
    refine n_brP rfl rfl ⟨fun hcn => ?_, fun hcn => ?_⟩
    · replace h := h.1 ((i_lt (x := x7) (y := 0) rfl (show (0 : Int32).toInt = 0 by decide)).mp hcn)
      exact k_1_30_3 hd hc  h
    · replace h := h.2 (fun q => hcn ((i_lt (x := x7) (y := 0) rfl (show (0 : Int32).toInt = 0 by decide)).mpr q))
      refine n_ld rfl rfl rfl ?_
      refine n_get (v := .ref 86) rfl (hv_R (a := 85) rfl rfl) ?_
      refine n_get (v := .ref 89) rfl (hv_R (a := 86) rfl rfl) ?_
      refine n_ld rfl rfl rfl ?_
      refine n_row x7 [] (a := 89) hd rfl rfl rfl rfl (fun x8 g1 g2 g3 => ?_)
      replace h := h x8 g2
      refine n_ld rfl rfl rfl ?_
      refine n_ld rfl rfl rfl ?_
      refine n_c [.int 1, .int a2, .int a4, .int x8] (xo_push (.int 1)) rfl rfl ?_
      replace h := h _ (i_sub (x := a2) (y := 1) rfl (show (1 : Int32).toInt = 1 by decide))
      refine n_c [.int (a2 - 1), .int a4, .int x8] xo_isub rfl rfl ?_
      refine n_brP rfl rfl ⟨fun hcn => ?_, fun hcn => ?_⟩
      · replace h := h.1 ((i_le (x := (a2 - 1)) (y := a4) rfl rfl).mp hcn)
        refine n_c [.int 0, .int x8] (xo_push (.int 0)) rfl rfl ?_
        exact k_1_29_3 hd hc r7 h
      · replace h := h.2 (fun q => hcn ((i_le (x := (a2 - 1)) (y := a4) rfl rfl).mpr q))
        refine n_c [.int 59, .int x8] (xo_push (.int 59)) rfl rfl ?_
        refine n_go rfl ?_
        exact k_1_29_3 hd hc r7 h
theorem kl_1_7_3 {d d0 : Nat} (hd : d = d0 + 6) (hc : ∀ p ∈ s_w1, CTR (yex d) p.1 p.2)  {a2 : Int32} {a3 : Int32} {a4 : Int32} {sa : Int32} {sk : Int32} {sf : Int32} {sc : Int32} {sz : Int32} {Q : Option Value → sW → Prop}  (h : wl_1_7 (fun k => Tt d wdL (wk_1 3 k) (wk_1 3 k)) 3  a2 a3 a4 sa sk sf sc sz Q) : Rn d wdL (((84, 5), 3, []) : wW) (((84, 5), 3, []) : wW) xL_0 7 (some .int) xE_1 (xE_1.drop 7) [.ref 85, .ref 3, .int a2, .int a3, .int a4, .null, .null, .null, .null, .null] [] (sa, sk, sf, sc, sz) Q := by
  obtain ⟨I, μ, h0, h1⟩ := h
  have key : ∀ (n : Nat) (a2 : Int32) (a3 : Int32) (a4 : Int32) (sa : Int32) (sk : Int32) (sf : Int32) (sc : Int32) (sz : Int32), μ a2 a3 a4 sa sk sf sc sz = n → I a2 a3 a4 sa sk sf sc sz → Rn d wdL (((84, 5), 3, []) : wW) (((84, 5), 3, []) : wW) xL_0 7 (some .int) xE_1 (xE_1.drop 7) [.ref 85, .ref 3, .int a2, .int a3, .int a4, .null, .null, .null, .null, .null] [] (sa, sk, sf, sc, sz) Q := by
    intro n
    induction n using Nat.strongRecOn with
    | ind n ih =>
      intro a2 a3 a4 sa sk sf sc sz e hI
      exact k_1_7_3 hd hc (fun a2' a3' a4' sa' sk' sf' sc' sz' q => ih _ (by rw [← e]; exact q.2) a2' a3' a4' sa' sk' sf' sc' sz' rfl q.1) (h1 a2 a3 a4 sa sk sf sc sz hI)
  exact key _ a2 a3 a4 sa sk sf sc sz rfl h0
set_option maxRecDepth 20000 in
theorem k_1_0_3 {d d0 : Nat} (hd : d = d0 + 6) (hc : ∀ p ∈ s_w1, CTR (yex d) p.1 p.2)  {a2 : Int32} {sa : Int32} {sk : Int32} {sf : Int32} {sc : Int32} {sz : Int32} {Q : Option Value → sW → Prop}  (h : w_1_0 (fun k => Tt d wdL (wk_1 3 k) (wk_1 3 k)) 3  a2 sa sk sf sc sz Q) : Rn d wdL (((84, 5), 3, []) : wW) (((84, 5), 3, []) : wW) xL_0 7 (some .int) xE_1 (xE_1.drop 0) [.ref 85, .ref 3, .int a2, .null, .null, .null, .null, .null, .null, .null] [] (sa, sk, sf, sc, sz) Q := by
  unfold w_1_0 at h
  refine n_ld rfl rfl rfl ?_
  refine n_c [.int 0, .ref 85] (xo_push (.int 0)) rfl rfl ?_
  refine n_put (a := 85) (w1 := (((84, 5), 3, []) : wW)) (s1 := (sa, sk, sf, sc, sz)) rfl rfl rfl rfl ⟨_, rfl, by decide, by decide⟩ rfl rfl rfl (Or.inr (Or.inl (by decide +kernel))) (ws_no (w := (((84, 5), 3, []) : wW)) (s := (sa, sk, sf, sc, sz)) (a := 85) (k := 4) rfl) ?_
  refine n_c [.int 0] (xo_push (.int 0)) rfl rfl ?_
  refine n_st [.ref 85, .ref 3, .int a2, .int 0, .null, .null, .null, .null, .null, .null] rfl rfl rfl ?_
  refine n_c [.int 0] (xo_push (.int 0)) rfl rfl ?_
  refine n_st [.ref 85, .ref 3, .int a2, .int 0, .int 0, .null, .null, .null, .null, .null] rfl rfl rfl ?_
  exact kl_1_7_3 hd hc  h
theorem t_1_3 {d : Nat} (hc : ∀ p ∈ s_w1, CTR (yex (d + 6)) p.1 p.2) {a2 : Int32} {sa : Int32} {sk : Int32} {sf : Int32} {sc : Int32} {sz : Int32} {Q : Option Value → sW → Prop} (h : w_1_0 (fun k => Tt (d + 6) wdL (wk_1 3 k) (wk_1 3 k)) 3 a2 sa sk sf sc sz Q) : Tt (d + 7) wdL (((84, 5), 3, []) : wW) (((84, 5), 3, []) : wW) 1 [.ref 85, .ref 3, .int a2] (sa, sk, sf, sc, sz) Q := tt_of (E := xE_1) (L := xL_0) (ml := 7) (ret := some .int) rfl rfl rfl (k_1_0_3 rfl hc h)
set_option maxRecDepth 20000 in
theorem k_1_106_39 {d d0 : Nat} (hd : d = d0 + 6) (hc : ∀ p ∈ s_w1, CTR (yex d) p.1 p.2)  {a2 : Int32} {a3 : Int32} {a4 : Int32} {a5 : Int32} {t0 : Int32} {sa : Int32} {sk : Int32} {sf : Int32} {sc : Int32} {sz : Int32} {Q : Option Value → sW → Prop}  (h : w_1_106 (fun k => Tt d wdL (wk_1 39 k) (wk_1 39 k)) 39  a2 a3 a4 a5 t0 sa sk sf sc sz Q) : Rn d wdL (((84, 5), 39, [(83, 1, 39), (83, 2, 86), (75, 0, 39), (75, 1, 57), (75, 2, 61)]) : wW) (((84, 5), 39, []) : wW) xL_0 7 (some .int) xE_1 (xE_1.drop 106) [.ref 85, .ref 39, .int a2, .int a3, .int a4, .int a5, .null, .null, .null, .null] [.int t0] (sa, sk, sf, sc, sz) Q := by
  unfold w_1_106 at h
  refine n_wk (c := []) rfl ?_
  exact n_retI rfl h
set_option maxRecDepth 20000 in
theorem k_1_97_39 {d d0 : Nat} (hd : d = d0 + 6) (hc : ∀ p ∈ s_w1, CTR (yex d) p.1 p.2)  {a2 : Int32} {a3 : Int32} {a4 : Int32} {a5 : Int32} {sa : Int32} {sk : Int32} {sf : Int32} {sc : Int32} {sz : Int32} {Q : Option Value → sW → Prop}  (h : w_1_97 (fun k => Tt d wdL (wk_1 39 k) (wk_1 39 k)) 39  a2 a3 a4 a5 sa sk sf sc sz Q) : Rn d wdL (((84, 5), 39, [(83, 1, 39), (83, 2, 86), (75, 0, 39), (75, 1, 57), (75, 2, 61)]) : wW) (((84, 5), 39, []) : wW) xL_0 7 (some .int) xE_1 (xE_1.drop 97) [.ref 85, .ref 39, .int a2, .int a3, .int a4, .int a5, .null, .null, .null, .null] [] (sa, sk, sf, sc, sz) Q := by
  unfold w_1_97 at h
  refine n_ld rfl rfl rfl ?_
  refine n_ld rfl rfl rfl ?_
  refine n_put (a := 39) (w1 := (((84, 5), 39, [(83, 1, 39), (83, 2, 86), (75, 0, 39), (75, 1, 57), (75, 2, 61)]) : wW)) (s1 := (sa, a4, sf, sc, sz)) rfl rfl rfl rfl ⟨_, rfl, h.1.1, h.1.2⟩ rfl rfl rfl (Or.inr (Or.inl (by decide +kernel))) (ws_kp (w := (((84, 5), 39, [(83, 1, 39), (83, 2, 86), (75, 0, 39), (75, 1, 57), (75, 2, 61)]) : wW)) (s := (sa, sk, sf, sc, sz)) rfl) ?_
  replace h := h.2
  refine n_ld rfl rfl rfl ?_
  refine n_get (v := .int sf) rfl (hv_f (a := 39) rfl rfl (fun _ _ hw => hw.1.2.2.1)) ?_
  refine n_brN rfl rfl ⟨fun hcn => ?_, fun hcn => ?_⟩
  · replace h := h.1 (fun q => hcn ((i_eq (x := sf) (y := 0) rfl (show (0 : Int32).toInt = 0 by decide)).mpr q))
    refine n_c [.int (-2)] (xo_push (.int (-2))) rfl rfl ?_
    exact k_1_106_39 hd hc  h
  · replace h := h.2 ((i_eq (x := sf) (y := 0) rfl (show (0 : Int32).toInt = 0 by decide)).mp hcn)
    refine n_c [.int 0] (xo_push (.int 0)) rfl rfl ?_
    refine n_go rfl ?_
    exact k_1_106_39 hd hc  h
set_option maxRecDepth 20000 in
theorem k_1_77_39 {d d0 : Nat} (hd : d = d0 + 6) (hc : ∀ p ∈ s_w1, CTR (yex d) p.1 p.2) {R61 : Int32 → Int32 → Int32 → Int32 → Int32 → Int32 → Int32 → Int32 → Int32 → Prop} {a2 : Int32} {a3 : Int32} {a4 : Int32} {a5 : Int32} {a6 : Int32} {t1 : Int32} {sa : Int32} {sk : Int32} {sf : Int32} {sc : Int32} {sz : Int32} {Q : Option Value → sW → Prop} (r61 : ∀ a2 a3 a4 a5 sa sk sf sc sz, R61 a2 a3 a4 a5 sa sk sf sc sz → Rn d wdL (((84, 5), 39, [(83, 1, 39), (83, 2, 86), (75, 0, 39), (75, 1, 57), (75, 2, 61)]) : wW) (((84, 5), 39, []) : wW) xL_0 7 (some .int) xE_1 (xE_1.drop 61) [.ref 85, .ref 39, .int a2, .int a3, .int a4, .int a5, .null, .null, .null, .null] [] (sa, sk, sf, sc, sz) Q) (h : w_1_77 (fun k => Tt d wdL (wk_1 39 k) (wk_1 39 k)) 39 R61 a2 a3 a4 a5 a6 t1 sa sk sf sc sz Q) : Rn d wdL (((84, 5), 39, [(83, 1, 39), (83, 2, 86), (75, 0, 39), (75, 1, 57), (75, 2, 61)]) : wW) (((84, 5), 39, []) : wW) xL_0 7 (some .int) xE_1 (xE_1.drop 77) [.ref 85, .ref 39, .int a2, .int a3, .int a4, .int a5, .int a6, .null, .null, .null] [.int t1, .ref 85] (sa, sk, sf, sc, sz) Q := by
  unfold w_1_77 at h
  refine n_put (a := 85) (w1 := (((84, 5), 39, [(83, 1, 39), (83, 2, 86), (75, 0, 39), (75, 1, 57), (75, 2, 61)]) : wW)) (s1 := (sa, sk, sf, sc, sz)) rfl rfl rfl rfl (vK_int _) rfl rfl rfl (Or.inr (Or.inl (by decide +kernel))) (ws_no (w := (((84, 5), 39, [(83, 1, 39), (83, 2, 86), (75, 0, 39), (75, 1, 57), (75, 2, 61)]) : wW)) (s := (sa, sk, sf, sc, sz)) (a := 85) (k := 5) rfl) ?_
  refine n_ld rfl rfl rfl ?_
  refine n_ld rfl rfl rfl ?_
  refine n_put (a := 85) (w1 := (((84, 5), 39, [(83, 1, 39), (83, 2, 86), (75, 0, 39), (75, 1, 57), (75, 2, 61)]) : wW)) (s1 := (sa, sk, sf, sc, sz)) rfl rfl rfl rfl (vK_int _) rfl rfl rfl (Or.inr (Or.inl (by decide +kernel))) (ws_no (w := (((84, 5), 39, [(83, 1, 39), (83, 2, 86), (75, 0, 39), (75, 1, 57), (75, 2, 61)]) : wW)) (s := (sa, sk, sf, sc, sz)) (a := 85) (k := 6) rfl) ?_
  refine n_ld rfl rfl rfl ?_
  refine n_get (v := .ref 83) rfl (hv_R (a := 85) rfl rfl) ?_
  refine n_ld rfl rfl rfl ?_
  refine n_c [.int 1, .int a3, .ref 83] (xo_push (.int 1)) rfl rfl ?_
  refine n_tt [.ref 83, .int a3, .int 1] [] rfl rfl rfl rfl (Tt.imp h (fun v6 sq h => ?_))
  obtain ⟨sa1, sk2, sf3, sc4, sz5⟩ := sq
  obtain ⟨x7, rfl, h⟩ := h
  change Rn _ _ _ _ _ _ _ _ _ _ [.int x7] _ _
  refine n_c [.int 1, .int x7] (xo_push (.int 1)) rfl rfl ?_
  replace h := h _ (i_add (x := x7) (y := 1) rfl (show (1 : Int32).toInt = 1 by decide))
  refine n_c [.int (x7 + 1)] xo_iadd rfl rfl ?_
  refine n_st [.ref 85, .ref 39, .int a2, .int (x7 + 1), .int a4, .int a5, .int a6, .null, .null, .null] rfl rfl rfl ?_
  refine n_ld rfl rfl rfl ?_
  refine n_get (v := .ref 83) rfl (hv_R (a := 85) rfl rfl) ?_
  refine n_ld rfl rfl rfl ?_
  refine n_ld rfl rfl rfl ?_
  refine n_get (v := .int sk2) rfl (hv_f (a := 39) rfl rfl (fun _ _ hw => hw.1.2.1)) ?_
  refine n_ctr [.ref 83, .int a6, .int sk2] [] rfl rfl rfl (hc (135, q_135) (List.mem_of_getElem? (i := 0) rfl)) ⟨⟨_, rfl, cmem_ok rfl⟩, ⟨_, rfl, h.1.1, h.1.2⟩, vK_int _, trivial⟩ rfl rfl (fun vq sq hv hk => ?_)
  replace h := h.2
  obtain ⟨sa9, sk10, sf11, sc12, sz13⟩ := sq
  obtain ⟨k1, k2, k3, k4, k5, k6, k7⟩ := hk
  obtain rfl : sa1 = sa9 := (k1 (wmem_no rfl)).symm
  obtain rfl : sk2 = sk10 := (k2).symm
  replace h := h sf11 (k4 (wmem_no rfl))
  obtain rfl : sc4 = sc12 := (k5 (wmem_no rfl)).symm
  obtain rfl : sz5 = sz13 := (k6 (wmem_no rfl)).symm
  cases (show vq = none from hv)
  change Rn _ _ _ _ _ _ _ _ _ _ [] _ _
  replace h := h _ (i_add (x := a5) (y := 1) rfl (show (1 : Int32).toInt = 1 by decide))
  refine n_inc [.ref 85, .ref 39, .int a2, .int (x7 + 1), .int a4, .int (a5 + 1), .int a6, .null, .null, .null] rfl rfl rfl rfl ?_
  refine n_go rfl ?_
  refine n_fg 6 ?_
  exact r61 a2 (x7 + 1) a4 (a5 + 1) sa1 sk2 sf11 sc4 sz5 h
set_option maxRecDepth 20000 in
theorem k_1_61_39 {d d0 : Nat} (hd : d = d0 + 6) (hc : ∀ p ∈ s_w1, CTR (yex d) p.1 p.2) {R61 : Int32 → Int32 → Int32 → Int32 → Int32 → Int32 → Int32 → Int32 → Int32 → Prop} {a2 : Int32} {a3 : Int32} {a4 : Int32} {a5 : Int32} {sa : Int32} {sk : Int32} {sf : Int32} {sc : Int32} {sz : Int32} {Q : Option Value → sW → Prop} (r61 : ∀ a2 a3 a4 a5 sa sk sf sc sz, R61 a2 a3 a4 a5 sa sk sf sc sz → Rn d wdL (((84, 5), 39, [(83, 1, 39), (83, 2, 86), (75, 0, 39), (75, 1, 57), (75, 2, 61)]) : wW) (((84, 5), 39, []) : wW) xL_0 7 (some .int) xE_1 (xE_1.drop 61) [.ref 85, .ref 39, .int a2, .int a3, .int a4, .int a5, .null, .null, .null, .null] [] (sa, sk, sf, sc, sz) Q) (h : w_1_61 (fun k => Tt d wdL (wk_1 39 k) (wk_1 39 k)) 39 R61 a2 a3 a4 a5 sa sk sf sc sz Q) : Rn d wdL (((84, 5), 39, [(83, 1, 39), (83, 2, 86), (75, 0, 39), (75, 1, 57), (75, 2, 61)]) : wW) (((84, 5), 39, []) : wW) xL_0 7 (some .int) xE_1 (xE_1.drop 61) [.ref 85, .ref 39, .int a2, .int a3, .int a4, .int a5, .null, .null, .null, .null] [] (sa, sk, sf, sc, sz) Q := by
  unfold w_1_61 at h
  refine n_ld rfl rfl rfl ?_
  refine n_ld rfl rfl rfl ?_
  refine n_brP rfl rfl ⟨fun hcn => ?_, fun hcn => ?_⟩
  · replace h := h.1 ((i_le (x := a2) (y := a5) rfl rfl).mp hcn)
    exact k_1_97_39 hd hc  h
  · replace h := h.2 (fun q => hcn ((i_le (x := a2) (y := a5) rfl rfl).mpr q))
    refine n_ld rfl rfl rfl ?_
    refine n_get (v := .int sf) rfl (hv_f (a := 39) rfl rfl (fun _ _ hw => hw.1.2.2.1)) ?_
    refine n_brN rfl rfl ⟨fun hcn => ?_, fun hcn => ?_⟩
    · replace h := h.1 (fun q => hcn ((i_eq (x := sf) (y := 0) rfl (show (0 : Int32).toInt = 0 by decide)).mpr q))
      exact k_1_97_39 hd hc  h
    · replace h := h.2 ((i_eq (x := sf) (y := 0) rfl (show (0 : Int32).toInt = 0 by decide)).mp hcn)
      refine n_ld rfl rfl rfl ?_
      refine n_get (v := .int sk) rfl (hv_f (a := 39) rfl rfl (fun _ _ hw => hw.1.2.1)) ?_
      refine n_st [.ref 85, .ref 39, .int a2, .int a3, .int a4, .int a5, .int sk, .null, .null, .null] rfl rfl rfl ?_
      refine n_ld rfl rfl rfl ?_
      refine n_ld rfl rfl rfl ?_
      refine n_brN rfl rfl ⟨fun hcn => ?_, fun hcn => ?_⟩
      · replace h := h.1 (fun q => hcn ((i_eq (x := a5) (y := 0) rfl (show (0 : Int32).toInt = 0 by decide)).mpr q))
        refine n_ld rfl rfl rfl ?_
        refine n_getI (a := 85) rfl rfl rfl (fun x1 hl hu => ?_)
        replace h := h x1
        exact k_1_77_39 hd hc r61 h
      · replace h := h.2 ((i_eq (x := a5) (y := 0) rfl (show (0 : Int32).toInt = 0 by decide)).mp hcn)
        refine n_ld rfl rfl rfl ?_
        refine n_go rfl ?_
        exact k_1_77_39 hd hc r61 h
theorem kl_1_61_39 {d d0 : Nat} (hd : d = d0 + 6) (hc : ∀ p ∈ s_w1, CTR (yex d) p.1 p.2)  {a2 : Int32} {a3 : Int32} {a4 : Int32} {a5 : Int32} {sa : Int32} {sk : Int32} {sf : Int32} {sc : Int32} {sz : Int32} {Q : Option Value → sW → Prop}  (h : wl_1_61 (fun k => Tt d wdL (wk_1 39 k) (wk_1 39 k)) 39  a2 a3 a4 a5 sa sk sf sc sz Q) : Rn d wdL (((84, 5), 39, [(83, 1, 39), (83, 2, 86), (75, 0, 39), (75, 1, 57), (75, 2, 61)]) : wW) (((84, 5), 39, []) : wW) xL_0 7 (some .int) xE_1 (xE_1.drop 61) [.ref 85, .ref 39, .int a2, .int a3, .int a4, .int a5, .null, .null, .null, .null] [] (sa, sk, sf, sc, sz) Q := by
  obtain ⟨I, μ, h0, h1⟩ := h
  have key : ∀ (n : Nat) (a2 : Int32) (a3 : Int32) (a4 : Int32) (a5 : Int32) (sa : Int32) (sk : Int32) (sf : Int32) (sc : Int32) (sz : Int32), μ a2 a3 a4 a5 sa sk sf sc sz = n → I a2 a3 a4 a5 sa sk sf sc sz → Rn d wdL (((84, 5), 39, [(83, 1, 39), (83, 2, 86), (75, 0, 39), (75, 1, 57), (75, 2, 61)]) : wW) (((84, 5), 39, []) : wW) xL_0 7 (some .int) xE_1 (xE_1.drop 61) [.ref 85, .ref 39, .int a2, .int a3, .int a4, .int a5, .null, .null, .null, .null] [] (sa, sk, sf, sc, sz) Q := by
    intro n
    induction n using Nat.strongRecOn with
    | ind n ih =>
      intro a2 a3 a4 a5 sa sk sf sc sz e hI
      exact k_1_61_39 hd hc (fun a2' a3' a4' a5' sa' sk' sf' sc' sz' q => ih _ (by rw [← e]; exact q.2) a2' a3' a4' a5' sa' sk' sf' sc' sz' rfl q.1) (h1 a2 a3 a4 a5 sa sk sf sc sz hI)
  exact key _ a2 a3 a4 a5 sa sk sf sc sz rfl h0
set_option maxRecDepth 20000 in
theorem k_1_30_39 {d d0 : Nat} (hd : d = d0 + 6) (hc : ∀ p ∈ s_w1, CTR (yex d) p.1 p.2)  {a2 : Int32} {a3 : Int32} {a4 : Int32} {sa : Int32} {sk : Int32} {sf : Int32} {sc : Int32} {sz : Int32} {Q : Option Value → sW → Prop}  (h : w_1_30 (fun k => Tt d wdL (wk_1 39 k) (wk_1 39 k)) 39  a2 a3 a4 sa sk sf sc sz Q) : Rn d wdL (((84, 5), 39, []) : wW) (((84, 5), 39, []) : wW) xL_0 7 (some .int) xE_1 (xE_1.drop 30) [.ref 85, .ref 39, .int a2, .int a3, .int a4, .null, .null, .null, .null, .null] [] (sa, sk, sf, sc, sz) Q := by
  unfold w_1_30 at h
  refine n_c [.int (-1)] (xo_push (.int (-1))) rfl rfl ?_
  exact n_retI rfl h
set_option maxRecDepth 20000 in
theorem k_1_29_39 {d d0 : Nat} (hd : d = d0 + 6) (hc : ∀ p ∈ s_w1, CTR (yex d) p.1 p.2) {R7 : Int32 → Int32 → Int32 → Int32 → Int32 → Int32 → Int32 → Int32 → Prop} {a2 : Int32} {a3 : Int32} {a4 : Int32} {t0 : Int32} {t1 : Int32} {sa : Int32} {sk : Int32} {sf : Int32} {sc : Int32} {sz : Int32} {Q : Option Value → sW → Prop} (r7 : ∀ a2 a3 a4 sa sk sf sc sz, R7 a2 a3 a4 sa sk sf sc sz → Rn d wdL (((84, 5), 39, []) : wW) (((84, 5), 39, []) : wW) xL_0 7 (some .int) xE_1 (xE_1.drop 7) [.ref 85, .ref 39, .int a2, .int a3, .int a4, .null, .null, .null, .null, .null] [] (sa, sk, sf, sc, sz) Q) (h : w_1_29 (fun k => Tt d wdL (wk_1 39 k) (wk_1 39 k)) 39 R7 a2 a3 a4 t0 t1 sa sk sf sc sz Q) : Rn d wdL (((84, 5), 39, []) : wW) (((84, 5), 39, []) : wW) xL_0 7 (some .int) xE_1 (xE_1.drop 29) [.ref 85, .ref 39, .int a2, .int a3, .int a4, .null, .null, .null, .null, .null] [.int t1, .int t0] (sa, sk, sf, sc, sz) Q := by
  unfold w_1_29 at h
  refine n_brP rfl rfl ⟨fun hcn => ?_, fun hcn => ?_⟩
  · replace h := h.1 ((i_eq (x := t0) (y := t1) rfl rfl).mp hcn)
    replace h := h _ (i_add (x := a3) (y := 1) rfl (show (1 : Int32).toInt = 1 by decide))
    refine n_inc [.ref 85, .ref 39, .int a2, .int (a3 + 1), .int a4, .null, .null, .null, .null, .null] rfl rfl rfl rfl ?_
    replace h := h _ (i_add (x := a4) (y := 1) rfl (show (1 : Int32).toInt = 1 by decide))
    refine n_inc [.ref 85, .ref 39, .int a2, .int (a3 + 1), .int (a4 + 1), .null, .null, .null, .null, .null] rfl rfl rfl rfl ?_
    refine n_go rfl ?_
    exact r7 a2 (a3 + 1) (a4 + 1) sa sk sf sc sz h
  · replace h := h.2 (fun q => hcn ((i_eq (x := t0) (y := t1) rfl rfl).mpr q))
    exact k_1_30_39 hd hc  h
set_option maxRecDepth 20000 in
theorem k_1_7_39 {d d0 : Nat} (hd : d = d0 + 6) (hc : ∀ p ∈ s_w1, CTR (yex d) p.1 p.2) {R7 : Int32 → Int32 → Int32 → Int32 → Int32 → Int32 → Int32 → Int32 → Prop} {a2 : Int32} {a3 : Int32} {a4 : Int32} {sa : Int32} {sk : Int32} {sf : Int32} {sc : Int32} {sz : Int32} {Q : Option Value → sW → Prop} (r7 : ∀ a2 a3 a4 sa sk sf sc sz, R7 a2 a3 a4 sa sk sf sc sz → Rn d wdL (((84, 5), 39, []) : wW) (((84, 5), 39, []) : wW) xL_0 7 (some .int) xE_1 (xE_1.drop 7) [.ref 85, .ref 39, .int a2, .int a3, .int a4, .null, .null, .null, .null, .null] [] (sa, sk, sf, sc, sz) Q) (h : w_1_7 (fun k => Tt d wdL (wk_1 39 k) (wk_1 39 k)) 39 R7 a2 a3 a4 sa sk sf sc sz Q) : Rn d wdL (((84, 5), 39, []) : wW) (((84, 5), 39, []) : wW) xL_0 7 (some .int) xE_1 (xE_1.drop 7) [.ref 85, .ref 39, .int a2, .int a3, .int a4, .null, .null, .null, .null, .null] [] (sa, sk, sf, sc, sz) Q := by
  unfold w_1_7 at h
  refine n_ld rfl rfl rfl ?_
  refine n_ld rfl rfl rfl ?_
  refine n_brP rfl rfl ⟨fun hcn => ?_, fun hcn => ?_⟩
  · replace h := h.1 ((i_le (x := a2) (y := a4) rfl rfl).mp hcn)
    refine n_ld rfl rfl rfl ?_
    refine n_getI (a := 85) rfl rfl rfl (fun x1 hl hu => ?_)
    replace h := h x1 hl hu
    refine n_brP rfl rfl ⟨fun hcn => ?_, fun hcn => ?_⟩
    · replace h := h.1 ((i_eq (x := x1) (y := 0) rfl (show (0 : Int32).toInt = 0 by decide)).mp hcn)
      refine n_ld rfl rfl rfl ?_
      refine n_get (v := .ref 75) rfl (hv_R (a := 85) rfl rfl) ?_
      refine n_ld rfl rfl rfl ?_
      refine n_c [.int 18, .ref 39, .ref 75] (xo_push (.int 18)) rfl rfl ?_
      refine n_tt [.ref 75, .ref 39, .int 18] [] (w1 := (((84, 5), 39, [(75, 0, 39), (75, 1, 57), (75, 2, 61)]) : wW)) rfl rfl rfl rfl (Tt.imp (u_81 hd (P := 39) rfl rfl rfl) (fun v1 s1 hq => ?_))
      obtain ⟨rfl, rfl⟩ := hq
      change Rn _ _ _ _ _ _ _ _ _ _ [] _ _
      refine n_ld rfl rfl rfl ?_
      refine n_get (v := .ref 83) rfl (hv_R (a := 85) rfl rfl) ?_
      refine n_ld rfl rfl rfl ?_
      refine n_ld rfl rfl rfl ?_
      refine n_get (v := .ref 86) rfl (hv_R (a := 85) rfl rfl) ?_
      refine n_tt [.ref 83, .ref 39, .ref 86] [] (w1 := (((84, 5), 39, [(83, 1, 39), (83, 2, 86), (75, 0, 39), (75, 1, 57), (75, 2, 61)]) : wW)) rfl rfl rfl rfl (Tt.imp (u_121 hd (P := 39) (T := 86) rfl rfl rfl) (fun v1 s1 hq => ?_))
      obtain ⟨rfl, rfl⟩ := hq
      change Rn _ _ _ _ _ _ _ _ _ _ [] _ _
      refine n_ld rfl rfl rfl ?_
      refine n_c [.int 0, .ref 39] (xo_push (.int 0)) rfl rfl ?_
      refine n_put (a := 39) (w1 := (((84, 5), 39, [(83, 1, 39), (83, 2, 86), (75, 0, 39), (75, 1, 57), (75, 2, 61)]) : wW)) (s1 := (sa, sk, 0, sc, sz)) rfl rfl rfl rfl (vK_int _) rfl rfl rfl (Or.inl (wmem_ok rfl)) (ws_fl (w := (((84, 5), 39, [(83, 1, 39), (83, 2, 86), (75, 0, 39), (75, 1, 57), (75, 2, 61)]) : wW)) (s := (sa, sk, sf, sc, sz)) rfl) ?_
      refine n_ld rfl rfl rfl ?_
      refine n_get (v := .int sk) rfl (hv_f (a := 39) rfl rfl (fun _ _ hw => hw.1.2.1)) ?_
      refine n_st [.ref 85, .ref 39, .int a2, .int a3, .int sk, .null, .null, .null, .null, .null] rfl rfl rfl ?_
      refine n_c [.int 0] (xo_push (.int 0)) rfl rfl ?_
      refine n_st [.ref 85, .ref 39, .int a2, .int 0, .int sk, .null, .null, .null, .null, .null] rfl rfl rfl ?_
      refine n_c [.int 0] (xo_push (.int 0)) rfl rfl ?_
      refine n_st [.ref 85, .ref 39, .int a2, .int 0, .int sk, .int 0, .null, .null, .null, .null] rfl rfl rfl ?_
      exact kl_1_61_39 hd hc  h
    · replace h := h.2 (fun q => hcn ((i_eq (x := x1) (y := 0) rfl (show (0 : Int32).toInt = 0 by decide)).mpr q))
      refine n_c [.int (-2)] (xo_push (.int (-2))) rfl rfl ?_
      exact n_retI rfl h
  · replace h := h.2 (fun q => hcn ((i_le (x := a2) (y := a4) rfl rfl).mpr q))
    refine n_ld rfl rfl rfl ?_
    refine n_ld rfl rfl rfl ?_
    refine n_ctr [.ref 85, .int a3] [] rfl rfl rfl (hc (2, q_2) (List.mem_of_getElem? (i := 1) rfl)) ⟨⟨_, rfl, cmem_ok rfl⟩, vK_int _, trivial⟩ rfl rfl (fun vq sq hv hk => ?_)
    obtain ⟨sa2, sk3, sf4, sc5, sz6⟩ := sq
    obtain ⟨k1, k2, k3, k4, k5, k6, k7⟩ := hk
    obtain rfl : sa = sa2 := (k1 (wmem_no rfl)).symm
    obtain rfl : sk = sk3 := (k2).symm
    obtain rfl : sf = sf4 := (k3 (wmem_no rfl)).symm
    obtain rfl : sc = sc5 := (k5 (wmem_no rfl)).symm
    obtain rfl : sz = sz6 := (k6 (wmem_no rfl)).symm
    obtain ⟨vr, rfl, x7, rfl, hl, hu⟩ := hv
    replace h := h x7
    change Rn _ _ _ _ _ _ _ _ _ _ [.int x7] _ _
    refine n_st [.ref 85, .ref 39, .int a2, .int x7, .int a4, .null, .null, .null, .null, .null] rfl rfl rfl ?_
    refine n_ld rfl rfl rfl ?_
    refine n_brP rfl rfl ⟨fun hcn => ?_, fun hcn => ?_⟩
    · replace h := h.1 ((i_lt (x := x7) (y := 0) rfl (show (0 : Int32).toInt = 0 by decide)).mp hcn)
      exact k_1_30_39 hd hc  h
    · replace h := h.2 (fun q => hcn ((i_lt (x := x7) (y := 0) rfl (show (0 : Int32).toInt = 0 by decide)).mpr q))
      refine n_ld rfl rfl rfl ?_
      refine n_get (v := .ref 86) rfl (hv_R (a := 85) rfl rfl) ?_
      refine n_get (v := .ref 89) rfl (hv_R (a := 86) rfl rfl) ?_
      refine n_ld rfl rfl rfl ?_
      refine n_row x7 [] (a := 89) hd rfl rfl rfl rfl (fun x8 g1 g2 g3 => ?_)
      replace h := h x8 g2
      refine n_ld rfl rfl rfl ?_
      refine n_ld rfl rfl rfl ?_
      refine n_c [.int 1, .int a2, .int a4, .int x8] (xo_push (.int 1)) rfl rfl ?_
      replace h := h _ (i_sub (x := a2) (y := 1) rfl (show (1 : Int32).toInt = 1 by decide))
      refine n_c [.int (a2 - 1), .int a4, .int x8] xo_isub rfl rfl ?_
      refine n_brP rfl rfl ⟨fun hcn => ?_, fun hcn => ?_⟩
      · replace h := h.1 ((i_le (x := (a2 - 1)) (y := a4) rfl rfl).mp hcn)
        refine n_c [.int 0, .int x8] (xo_push (.int 0)) rfl rfl ?_
        exact k_1_29_39 hd hc r7 h
      · replace h := h.2 (fun q => hcn ((i_le (x := (a2 - 1)) (y := a4) rfl rfl).mpr q))
        refine n_c [.int 59, .int x8] (xo_push (.int 59)) rfl rfl ?_
        refine n_go rfl ?_
        exact k_1_29_39 hd hc r7 h
theorem kl_1_7_39 {d d0 : Nat} (hd : d = d0 + 6) (hc : ∀ p ∈ s_w1, CTR (yex d) p.1 p.2)  {a2 : Int32} {a3 : Int32} {a4 : Int32} {sa : Int32} {sk : Int32} {sf : Int32} {sc : Int32} {sz : Int32} {Q : Option Value → sW → Prop}  (h : wl_1_7 (fun k => Tt d wdL (wk_1 39 k) (wk_1 39 k)) 39  a2 a3 a4 sa sk sf sc sz Q) : Rn d wdL (((84, 5), 39, []) : wW) (((84, 5), 39, []) : wW) xL_0 7 (some .int) xE_1 (xE_1.drop 7) [.ref 85, .ref 39, .int a2, .int a3, .int a4, .null, .null, .null, .null, .null] [] (sa, sk, sf, sc, sz) Q := by
  obtain ⟨I, μ, h0, h1⟩ := h
  have key : ∀ (n : Nat) (a2 : Int32) (a3 : Int32) (a4 : Int32) (sa : Int32) (sk : Int32) (sf : Int32) (sc : Int32) (sz : Int32), μ a2 a3 a4 sa sk sf sc sz = n → I a2 a3 a4 sa sk sf sc sz → Rn d wdL (((84, 5), 39, []) : wW) (((84, 5), 39, []) : wW) xL_0 7 (some .int) xE_1 (xE_1.drop 7) [.ref 85, .ref 39, .int a2, .int a3, .int a4, .null, .null, .null, .null, .null] [] (sa, sk, sf, sc, sz) Q := by
    intro n
    induction n using Nat.strongRecOn with
    | ind n ih =>
      intro a2 a3 a4 sa sk sf sc sz e hI
      exact k_1_7_39 hd hc (fun a2' a3' a4' sa' sk' sf' sc' sz' q => ih _ (by rw [← e]; exact q.2) a2' a3' a4' sa' sk' sf' sc' sz' rfl q.1) (h1 a2 a3 a4 sa sk sf sc sz hI)
  exact key _ a2 a3 a4 sa sk sf sc sz rfl h0
set_option maxRecDepth 20000 in
theorem k_1_0_39 {d d0 : Nat} (hd : d = d0 + 6) (hc : ∀ p ∈ s_w1, CTR (yex d) p.1 p.2)  {a2 : Int32} {sa : Int32} {sk : Int32} {sf : Int32} {sc : Int32} {sz : Int32} {Q : Option Value → sW → Prop}  (h : w_1_0 (fun k => Tt d wdL (wk_1 39 k) (wk_1 39 k)) 39  a2 sa sk sf sc sz Q) : Rn d wdL (((84, 5), 39, []) : wW) (((84, 5), 39, []) : wW) xL_0 7 (some .int) xE_1 (xE_1.drop 0) [.ref 85, .ref 39, .int a2, .null, .null, .null, .null, .null, .null, .null] [] (sa, sk, sf, sc, sz) Q := by
  unfold w_1_0 at h
  refine n_ld rfl rfl rfl ?_
  refine n_c [.int 0, .ref 85] (xo_push (.int 0)) rfl rfl ?_
  refine n_put (a := 85) (w1 := (((84, 5), 39, []) : wW)) (s1 := (sa, sk, sf, sc, sz)) rfl rfl rfl rfl ⟨_, rfl, by decide, by decide⟩ rfl rfl rfl (Or.inr (Or.inl (by decide +kernel))) (ws_no (w := (((84, 5), 39, []) : wW)) (s := (sa, sk, sf, sc, sz)) (a := 85) (k := 4) rfl) ?_
  refine n_c [.int 0] (xo_push (.int 0)) rfl rfl ?_
  refine n_st [.ref 85, .ref 39, .int a2, .int 0, .null, .null, .null, .null, .null, .null] rfl rfl rfl ?_
  refine n_c [.int 0] (xo_push (.int 0)) rfl rfl ?_
  refine n_st [.ref 85, .ref 39, .int a2, .int 0, .int 0, .null, .null, .null, .null, .null] rfl rfl rfl ?_
  exact kl_1_7_39 hd hc  h
theorem t_1_39 {d : Nat} (hc : ∀ p ∈ s_w1, CTR (yex (d + 6)) p.1 p.2) {a2 : Int32} {sa : Int32} {sk : Int32} {sf : Int32} {sc : Int32} {sz : Int32} {Q : Option Value → sW → Prop} (h : w_1_0 (fun k => Tt (d + 6) wdL (wk_1 39 k) (wk_1 39 k)) 39 a2 sa sk sf sc sz Q) : Tt (d + 7) wdL (((84, 5), 39, []) : wW) (((84, 5), 39, []) : wW) 1 [.ref 85, .ref 39, .int a2] (sa, sk, sf, sc, sz) Q := tt_of (E := xE_1) (L := xL_0) (ml := 7) (ret := some .int) rfl rfl rfl (k_1_0_39 rfl hc h)
/-! FeatherBench$Program.begin -/
def wk_37 (P : Nat) : Nat → wW
  | _ => (((84, 5), P, []) : wW)
def s_w37 : List (Nat × cSg) := [(110, q_110)]
def w_37_0 (T : Nat → Nat → List Value → sW → (Option Value → sW → Prop) → Prop) (P : Nat)  (sa : Int32) (sk : Int32) (sf : Int32) (sc : Int32) (sz : Int32) (Q : Option Value → sW → Prop) : Prop :=
  T 0 79 [.ref (P + 24)] (sa, sk, sf, sc, sz) (fun v11 (sa6, sk7, sf8, sc9, sz10) => v11 = none ∧ (T 0 79 [.ref (P + 26)] (sa6, sk7, sf8, sc9, sz10) (fun v17 (sa12, sk13, sf14, sc15, sz16) => v17 = none ∧ (T 0 79 [.ref (P + 28)] (sa12, sk13, sf14, sc15, sz16) (fun v23 (sa18, sk19, sf20, sc21, sz22) => v23 = none ∧ (T 0 79 [.ref (P + 30)] (sa18, sk19, sf20, sc21, sz22) (fun v29 (sa24, sk25, sf26, sc27, sz28) => v29 = none ∧ (T 0 79 [.ref (P + 32)] (sa24, sk25, sf26, sc27, sz28) (fun v35 (sa30, sk31, sf32, sc33, sz34) => v35 = none ∧ (T 0 79 [.ref (P + 34)] (sa30, sk31, sf32, sc33, sz34) (fun v41 (sa36, sk37, sf38, sc39, sz40) => v41 = none ∧ (Q none (sa36, 18738, 0, sc39, sz40)))))))))))))
set_option maxRecDepth 20000 in
theorem k_37_0_3 {d d0 : Nat} (hd : d = d0 + 4) (hc : ∀ p ∈ s_w37, CTR (yex d) p.1 p.2)  {sa : Int32} {sk : Int32} {sf : Int32} {sc : Int32} {sz : Int32} {Q : Option Value → sW → Prop}  (h : w_37_0 (fun k => Tt d wdL (wk_37 3 k) (wk_37 3 k)) 3  sa sk sf sc sz Q) : Rn d wdL (((84, 5), 3, []) : wW) (((84, 5), 3, []) : wW) xL_4 2 (none) xE_37 (xE_37.drop 0) [.ref 3, .ref 1, .null, .null] [] (sa, sk, sf, sc, sz) Q := by
  unfold w_37_0 at h
  refine n_ld rfl rfl rfl ?_
  refine n_get (v := .ref 4) rfl (hv_R (a := 3) rfl rfl) ?_
  refine n_ld rfl rfl rfl ?_
  refine n_ctr [.ref 4, .ref 1] [] rfl rfl rfl (hc (110, q_110) (List.mem_of_getElem? (i := 0) rfl)) ⟨⟨_, rfl, cmem_ok rfl⟩, ⟨_, rfl, cmem_ok rfl⟩, trivial⟩ rfl rfl (fun vq sq hv hk => ?_)
  obtain ⟨sa1, sk2, sf3, sc4, sz5⟩ := sq
  obtain ⟨k1, k2, k3, k4, k5, k6, k7⟩ := hk
  obtain rfl : sa = sa1 := (k1 (wmem_no rfl)).symm
  obtain rfl : sk = sk2 := (k2).symm
  obtain rfl : sf = sf3 := (k3 (wmem_no rfl)).symm
  obtain rfl : sc = sc4 := (k5 (wmem_no rfl)).symm
  obtain rfl : sz = sz5 := (k6 (wmem_no rfl)).symm
  cases (show vq = none from hv)
  change Rn _ _ _ _ _ _ _ _ _ _ [] _ _
  refine n_ld rfl rfl rfl ?_
  refine n_get (v := .ref 27) rfl (hv_R (a := 3) rfl rfl) ?_
  refine n_tt [.ref 27] [] rfl rfl rfl rfl (Tt.imp h (fun v11 sq h => ?_))
  obtain ⟨sa6, sk7, sf8, sc9, sz10⟩ := sq
  obtain ⟨rfl, h⟩ := h
  change Rn _ _ _ _ _ _ _ _ _ _ [] _ _
  refine n_ld rfl rfl rfl ?_
  refine n_get (v := .ref 29) rfl (hv_R (a := 3) rfl rfl) ?_
  refine n_tt [.ref 29] [] rfl rfl rfl rfl (Tt.imp h (fun v17 sq h => ?_))
  obtain ⟨sa12, sk13, sf14, sc15, sz16⟩ := sq
  obtain ⟨rfl, h⟩ := h
  change Rn _ _ _ _ _ _ _ _ _ _ [] _ _
  refine n_ld rfl rfl rfl ?_
  refine n_get (v := .ref 31) rfl (hv_R (a := 3) rfl rfl) ?_
  refine n_tt [.ref 31] [] rfl rfl rfl rfl (Tt.imp h (fun v23 sq h => ?_))
  obtain ⟨sa18, sk19, sf20, sc21, sz22⟩ := sq
  obtain ⟨rfl, h⟩ := h
  change Rn _ _ _ _ _ _ _ _ _ _ [] _ _
  refine n_ld rfl rfl rfl ?_
  refine n_get (v := .ref 33) rfl (hv_R (a := 3) rfl rfl) ?_
  refine n_tt [.ref 33] [] rfl rfl rfl rfl (Tt.imp h (fun v29 sq h => ?_))
  obtain ⟨sa24, sk25, sf26, sc27, sz28⟩ := sq
  obtain ⟨rfl, h⟩ := h
  change Rn _ _ _ _ _ _ _ _ _ _ [] _ _
  refine n_ld rfl rfl rfl ?_
  refine n_get (v := .ref 35) rfl (hv_R (a := 3) rfl rfl) ?_
  refine n_tt [.ref 35] [] rfl rfl rfl rfl (Tt.imp h (fun v35 sq h => ?_))
  obtain ⟨sa30, sk31, sf32, sc33, sz34⟩ := sq
  obtain ⟨rfl, h⟩ := h
  change Rn _ _ _ _ _ _ _ _ _ _ [] _ _
  refine n_ld rfl rfl rfl ?_
  refine n_get (v := .ref 37) rfl (hv_R (a := 3) rfl rfl) ?_
  refine n_tt [.ref 37] [] rfl rfl rfl rfl (Tt.imp h (fun v41 sq h => ?_))
  obtain ⟨sa36, sk37, sf38, sc39, sz40⟩ := sq
  obtain ⟨rfl, h⟩ := h
  change Rn _ _ _ _ _ _ _ _ _ _ [] _ _
  refine n_ld rfl rfl rfl ?_
  refine n_c [.int 18738, .ref 3] (xo_push (.int 18738)) rfl rfl ?_
  refine n_put (a := 3) (w1 := (((84, 5), 3, []) : wW)) (s1 := (sa36, 18738, sf38, sc39, sz40)) rfl rfl rfl rfl ⟨_, rfl, by decide, by decide⟩ rfl rfl rfl (Or.inr (Or.inl (by decide +kernel))) (ws_kp (w := (((84, 5), 3, []) : wW)) (s := (sa36, sk37, sf38, sc39, sz40)) rfl) ?_
  refine n_ld rfl rfl rfl ?_
  refine n_c [.int 0, .ref 3] (xo_push (.int 0)) rfl rfl ?_
  refine n_put (a := 3) (w1 := (((84, 5), 3, []) : wW)) (s1 := (sa36, 18738, 0, sc39, sz40)) rfl rfl rfl rfl (vK_int _) rfl rfl rfl (Or.inl (wmem_ok rfl)) (ws_fl (w := (((84, 5), 3, []) : wW)) (s := (sa36, 18738, sf38, sc39, sz40)) rfl) ?_
  exact n_ret0 rfl h
theorem t_37_3 {d : Nat} (hc : ∀ p ∈ s_w37, CTR (yex (d + 4)) p.1 p.2) {sa : Int32} {sk : Int32} {sf : Int32} {sc : Int32} {sz : Int32} {Q : Option Value → sW → Prop} (h : w_37_0 (fun k => Tt (d + 4) wdL (wk_37 3 k) (wk_37 3 k)) 3 sa sk sf sc sz Q) : Tt (d + 5) wdL (((84, 5), 3, []) : wW) (((84, 5), 3, []) : wW) 37 [.ref 3, .ref 1] (sa, sk, sf, sc, sz) Q := tt_of (E := xE_37) (L := xL_4) (ml := 2) (ret := none) rfl rfl rfl (k_37_0_3 rfl hc h)
set_option maxRecDepth 20000 in
theorem k_37_0_39 {d d0 : Nat} (hd : d = d0 + 4) (hc : ∀ p ∈ s_w37, CTR (yex d) p.1 p.2)  {sa : Int32} {sk : Int32} {sf : Int32} {sc : Int32} {sz : Int32} {Q : Option Value → sW → Prop}  (h : w_37_0 (fun k => Tt d wdL (wk_37 39 k) (wk_37 39 k)) 39  sa sk sf sc sz Q) : Rn d wdL (((84, 5), 39, []) : wW) (((84, 5), 39, []) : wW) xL_4 2 (none) xE_37 (xE_37.drop 0) [.ref 39, .ref 1, .null, .null] [] (sa, sk, sf, sc, sz) Q := by
  unfold w_37_0 at h
  refine n_ld rfl rfl rfl ?_
  refine n_get (v := .ref 40) rfl (hv_R (a := 39) rfl rfl) ?_
  refine n_ld rfl rfl rfl ?_
  refine n_ctr [.ref 40, .ref 1] [] rfl rfl rfl (hc (110, q_110) (List.mem_of_getElem? (i := 0) rfl)) ⟨⟨_, rfl, cmem_ok rfl⟩, ⟨_, rfl, cmem_ok rfl⟩, trivial⟩ rfl rfl (fun vq sq hv hk => ?_)
  obtain ⟨sa1, sk2, sf3, sc4, sz5⟩ := sq
  obtain ⟨k1, k2, k3, k4, k5, k6, k7⟩ := hk
  obtain rfl : sa = sa1 := (k1 (wmem_no rfl)).symm
  obtain rfl : sk = sk2 := (k2).symm
  obtain rfl : sf = sf3 := (k3 (wmem_no rfl)).symm
  obtain rfl : sc = sc4 := (k5 (wmem_no rfl)).symm
  obtain rfl : sz = sz5 := (k6 (wmem_no rfl)).symm
  cases (show vq = none from hv)
  change Rn _ _ _ _ _ _ _ _ _ _ [] _ _
  refine n_ld rfl rfl rfl ?_
  refine n_get (v := .ref 63) rfl (hv_R (a := 39) rfl rfl) ?_
  refine n_tt [.ref 63] [] rfl rfl rfl rfl (Tt.imp h (fun v11 sq h => ?_))
  obtain ⟨sa6, sk7, sf8, sc9, sz10⟩ := sq
  obtain ⟨rfl, h⟩ := h
  change Rn _ _ _ _ _ _ _ _ _ _ [] _ _
  refine n_ld rfl rfl rfl ?_
  refine n_get (v := .ref 65) rfl (hv_R (a := 39) rfl rfl) ?_
  refine n_tt [.ref 65] [] rfl rfl rfl rfl (Tt.imp h (fun v17 sq h => ?_))
  obtain ⟨sa12, sk13, sf14, sc15, sz16⟩ := sq
  obtain ⟨rfl, h⟩ := h
  change Rn _ _ _ _ _ _ _ _ _ _ [] _ _
  refine n_ld rfl rfl rfl ?_
  refine n_get (v := .ref 67) rfl (hv_R (a := 39) rfl rfl) ?_
  refine n_tt [.ref 67] [] rfl rfl rfl rfl (Tt.imp h (fun v23 sq h => ?_))
  obtain ⟨sa18, sk19, sf20, sc21, sz22⟩ := sq
  obtain ⟨rfl, h⟩ := h
  change Rn _ _ _ _ _ _ _ _ _ _ [] _ _
  refine n_ld rfl rfl rfl ?_
  refine n_get (v := .ref 69) rfl (hv_R (a := 39) rfl rfl) ?_
  refine n_tt [.ref 69] [] rfl rfl rfl rfl (Tt.imp h (fun v29 sq h => ?_))
  obtain ⟨sa24, sk25, sf26, sc27, sz28⟩ := sq
  obtain ⟨rfl, h⟩ := h
  change Rn _ _ _ _ _ _ _ _ _ _ [] _ _
  refine n_ld rfl rfl rfl ?_
  refine n_get (v := .ref 71) rfl (hv_R (a := 39) rfl rfl) ?_
  refine n_tt [.ref 71] [] rfl rfl rfl rfl (Tt.imp h (fun v35 sq h => ?_))
  obtain ⟨sa30, sk31, sf32, sc33, sz34⟩ := sq
  obtain ⟨rfl, h⟩ := h
  change Rn _ _ _ _ _ _ _ _ _ _ [] _ _
  refine n_ld rfl rfl rfl ?_
  refine n_get (v := .ref 73) rfl (hv_R (a := 39) rfl rfl) ?_
  refine n_tt [.ref 73] [] rfl rfl rfl rfl (Tt.imp h (fun v41 sq h => ?_))
  obtain ⟨sa36, sk37, sf38, sc39, sz40⟩ := sq
  obtain ⟨rfl, h⟩ := h
  change Rn _ _ _ _ _ _ _ _ _ _ [] _ _
  refine n_ld rfl rfl rfl ?_
  refine n_c [.int 18738, .ref 39] (xo_push (.int 18738)) rfl rfl ?_
  refine n_put (a := 39) (w1 := (((84, 5), 39, []) : wW)) (s1 := (sa36, 18738, sf38, sc39, sz40)) rfl rfl rfl rfl ⟨_, rfl, by decide, by decide⟩ rfl rfl rfl (Or.inr (Or.inl (by decide +kernel))) (ws_kp (w := (((84, 5), 39, []) : wW)) (s := (sa36, sk37, sf38, sc39, sz40)) rfl) ?_
  refine n_ld rfl rfl rfl ?_
  refine n_c [.int 0, .ref 39] (xo_push (.int 0)) rfl rfl ?_
  refine n_put (a := 39) (w1 := (((84, 5), 39, []) : wW)) (s1 := (sa36, 18738, 0, sc39, sz40)) rfl rfl rfl rfl (vK_int _) rfl rfl rfl (Or.inl (wmem_ok rfl)) (ws_fl (w := (((84, 5), 39, []) : wW)) (s := (sa36, 18738, sf38, sc39, sz40)) rfl) ?_
  exact n_ret0 rfl h
theorem t_37_39 {d : Nat} (hc : ∀ p ∈ s_w37, CTR (yex (d + 4)) p.1 p.2) {sa : Int32} {sk : Int32} {sf : Int32} {sc : Int32} {sz : Int32} {Q : Option Value → sW → Prop} (h : w_37_0 (fun k => Tt (d + 4) wdL (wk_37 39 k) (wk_37 39 k)) 39 sa sk sf sc sz Q) : Tt (d + 5) wdL (((84, 5), 39, []) : wW) (((84, 5), 39, []) : wW) 37 [.ref 39, .ref 1] (sa, sk, sf, sc, sz) Q := tt_of (E := xE_37) (L := xL_4) (ml := 2) (ret := none) rfl rfl rfl (k_37_0_39 rfl hc h)
/-! FeatherBench.readTape -/
def wk_152 (P : Nat) : Nat → wW
  | _ => (((84, 5), P, [(0, 9, P)]) : wW)
def s_w152 : List (Nat × cSg) := [(110, q_110)]
def w_152_20 (T : Nat → Nat → List Value → sW → (Option Value → sW → Prop) → Prop) (P : Nat)  (a1 : Int32) (t0 : Int32) (sa : Int32) (sk : Int32) (sf : Int32) (sc : Int32) (sz : Int32) (Q : Option Value → sW → Prop) : Prop :=
  Q (some (.int t0)) (sa, sk, sf, sc, sz)
def w_152_0 (T : Nat → Nat → List Value → sW → (Option Value → sW → Prop) → Prop) (P : Nat)  (a1 : Int32) (sa : Int32) (sk : Int32) (sf : Int32) (sc : Int32) (sz : Int32) (Q : Option Value → sW → Prop) : Prop :=
  T 0 79 [.ref 1] (sa, sk, sf, sc, sz) (fun v11 (sa6, sk7, sf8, sc9, sz10) => v11 = none ∧ (∀ x12 : Int32, 0 ≤ x12.toInt → x12.toInt ≤ 1 → (x12.toInt = 0 → w_152_20 T P  a1 (-1) sa6 sk7 sf8 sc9 sz10 Q) ∧ (¬ (x12.toInt = 0) → T 0 1 [.ref 85, .ref P, .int a1] (sa6, sk7, sf8, sc9, sz10) (fun v18 (sa13, sk14, sf15, sc16, sz17) => ∃ x19, v18 = some (.int x19) ∧ (w_152_20 T P  a1 x19 sa13 sk14 sf15 sc16 sz17 Q)))))
set_option maxRecDepth 20000 in
theorem k_152_20_3 {d d0 : Nat} (hd : d = d0 + 4) (hc : ∀ p ∈ s_w152, CTR (yex d) p.1 p.2)  {a1 : Int32} {t0 : Int32} {sa : Int32} {sk : Int32} {sf : Int32} {sc : Int32} {sz : Int32} {Q : Option Value → sW → Prop}  (h : w_152_20 (fun k => Tt d wdL (wk_152 3 k) (wk_152 3 k)) 3  a1 t0 sa sk sf sc sz Q) : Rn d wdL (((84, 5), 3, [(0, 9, 3)]) : wW) (((84, 5), 3, [(0, 9, 3)]) : wW) xL_11 2 (some .int) xE_152 (xE_152.drop 20) [.ref 0, .int a1, .null, .null] [.int t0] (sa, sk, sf, sc, sz) Q := by
  unfold w_152_20 at h
  exact n_retI rfl h
set_option maxRecDepth 20000 in
theorem k_152_0_3 {d d0 : Nat} (hd : d = d0 + 4) (hc : ∀ p ∈ s_w152, CTR (yex d) p.1 p.2)  {a1 : Int32} {sa : Int32} {sk : Int32} {sf : Int32} {sc : Int32} {sz : Int32} {Q : Option Value → sW → Prop}  (h : w_152_0 (fun k => Tt d wdL (wk_152 3 k) (wk_152 3 k)) 3  a1 sa sk sf sc sz Q) : Rn d wdL (((84, 5), 3, [(0, 9, 3)]) : wW) (((84, 5), 3, [(0, 9, 3)]) : wW) xL_11 2 (some .int) xE_152 (xE_152.drop 0) [.ref 0, .int a1, .null, .null] [] (sa, sk, sf, sc, sz) Q := by
  unfold w_152_0 at h
  refine n_ld rfl rfl rfl ?_
  refine n_get (v := .ref 85) rfl (hv_R (a := 0) rfl rfl) ?_
  refine n_get (v := .ref 86) rfl (hv_R (a := 85) rfl rfl) ?_
  refine n_ld rfl rfl rfl ?_
  refine n_get (v := .ref 1) rfl (hv_R (a := 0) rfl rfl) ?_
  refine n_ctr [.ref 86, .ref 1] [] rfl rfl rfl (hc (110, q_110) (List.mem_of_getElem? (i := 0) rfl)) ⟨⟨_, rfl, cmem_ok rfl⟩, ⟨_, rfl, cmem_ok rfl⟩, trivial⟩ rfl rfl (fun vq sq hv hk => ?_)
  obtain ⟨sa1, sk2, sf3, sc4, sz5⟩ := sq
  obtain ⟨k1, k2, k3, k4, k5, k6, k7⟩ := hk
  obtain rfl : sa = sa1 := (k1 (wmem_no rfl)).symm
  obtain rfl : sk = sk2 := (k2).symm
  obtain rfl : sf = sf3 := (k3 (wmem_no rfl)).symm
  obtain rfl : sc = sc4 := (k5 (wmem_no rfl)).symm
  obtain rfl : sz = sz5 := (k6 (wmem_no rfl)).symm
  cases (show vq = none from hv)
  change Rn _ _ _ _ _ _ _ _ _ _ [] _ _
  refine n_ld rfl rfl rfl ?_
  refine n_get (v := .ref 1) rfl (hv_R (a := 0) rfl rfl) ?_
  refine n_tt [.ref 1] [] rfl rfl rfl rfl (Tt.imp h (fun v11 sq h => ?_))
  obtain ⟨sa6, sk7, sf8, sc9, sz10⟩ := sq
  obtain ⟨rfl, h⟩ := h
  change Rn _ _ _ _ _ _ _ _ _ _ [] _ _
  refine n_ld rfl rfl rfl ?_
  refine n_getI (a := 0) rfl rfl rfl (fun x12 hl hu => ?_)
  replace h := h x12 hl hu
  refine n_brP rfl rfl ⟨fun hcn => ?_, fun hcn => ?_⟩
  · replace h := h.1 ((i_eq (x := x12) (y := 0) rfl (show (0 : Int32).toInt = 0 by decide)).mp hcn)
    refine n_c [.int (-1)] (xo_push (.int (-1))) rfl rfl ?_
    exact k_152_20_3 hd hc  h
  · replace h := h.2 (fun q => hcn ((i_eq (x := x12) (y := 0) rfl (show (0 : Int32).toInt = 0 by decide)).mpr q))
    refine n_ld rfl rfl rfl ?_
    refine n_get (v := .ref 85) rfl (hv_R (a := 0) rfl rfl) ?_
    refine n_ld rfl rfl rfl ?_
    refine n_get (v := .ref 3) rfl (hv_C (a := 0) (n := 0) rfl rfl rfl) ?_
    refine n_ld rfl rfl rfl ?_
    refine n_tt [.ref 85, .ref 3, .int a1] [] rfl rfl rfl rfl (Tt.imp h (fun v18 sq h => ?_))
    obtain ⟨sa13, sk14, sf15, sc16, sz17⟩ := sq
    obtain ⟨x19, rfl, h⟩ := h
    change Rn _ _ _ _ _ _ _ _ _ _ [.int x19] _ _
    refine n_go rfl ?_
    exact k_152_20_3 hd hc  h
theorem t_152_3 {d : Nat} (hc : ∀ p ∈ s_w152, CTR (yex (d + 4)) p.1 p.2) {a1 : Int32} {sa : Int32} {sk : Int32} {sf : Int32} {sc : Int32} {sz : Int32} {Q : Option Value → sW → Prop} (h : w_152_0 (fun k => Tt (d + 4) wdL (wk_152 3 k) (wk_152 3 k)) 3 a1 sa sk sf sc sz Q) : Tt (d + 5) wdL (((84, 5), 3, [(0, 9, 3)]) : wW) (((84, 5), 3, [(0, 9, 3)]) : wW) 152 [.ref 0, .int a1] (sa, sk, sf, sc, sz) Q := tt_of (E := xE_152) (L := xL_11) (ml := 2) (ret := some .int) rfl rfl rfl (k_152_0_3 rfl hc h)
set_option maxRecDepth 20000 in
theorem k_152_20_39 {d d0 : Nat} (hd : d = d0 + 4) (hc : ∀ p ∈ s_w152, CTR (yex d) p.1 p.2)  {a1 : Int32} {t0 : Int32} {sa : Int32} {sk : Int32} {sf : Int32} {sc : Int32} {sz : Int32} {Q : Option Value → sW → Prop}  (h : w_152_20 (fun k => Tt d wdL (wk_152 39 k) (wk_152 39 k)) 39  a1 t0 sa sk sf sc sz Q) : Rn d wdL (((84, 5), 39, [(0, 9, 39)]) : wW) (((84, 5), 39, [(0, 9, 39)]) : wW) xL_11 2 (some .int) xE_152 (xE_152.drop 20) [.ref 0, .int a1, .null, .null] [.int t0] (sa, sk, sf, sc, sz) Q := by
  unfold w_152_20 at h
  exact n_retI rfl h
set_option maxRecDepth 20000 in
theorem k_152_0_39 {d d0 : Nat} (hd : d = d0 + 4) (hc : ∀ p ∈ s_w152, CTR (yex d) p.1 p.2)  {a1 : Int32} {sa : Int32} {sk : Int32} {sf : Int32} {sc : Int32} {sz : Int32} {Q : Option Value → sW → Prop}  (h : w_152_0 (fun k => Tt d wdL (wk_152 39 k) (wk_152 39 k)) 39  a1 sa sk sf sc sz Q) : Rn d wdL (((84, 5), 39, [(0, 9, 39)]) : wW) (((84, 5), 39, [(0, 9, 39)]) : wW) xL_11 2 (some .int) xE_152 (xE_152.drop 0) [.ref 0, .int a1, .null, .null] [] (sa, sk, sf, sc, sz) Q := by
  unfold w_152_0 at h
  refine n_ld rfl rfl rfl ?_
  refine n_get (v := .ref 85) rfl (hv_R (a := 0) rfl rfl) ?_
  refine n_get (v := .ref 86) rfl (hv_R (a := 85) rfl rfl) ?_
  refine n_ld rfl rfl rfl ?_
  refine n_get (v := .ref 1) rfl (hv_R (a := 0) rfl rfl) ?_
  refine n_ctr [.ref 86, .ref 1] [] rfl rfl rfl (hc (110, q_110) (List.mem_of_getElem? (i := 0) rfl)) ⟨⟨_, rfl, cmem_ok rfl⟩, ⟨_, rfl, cmem_ok rfl⟩, trivial⟩ rfl rfl (fun vq sq hv hk => ?_)
  obtain ⟨sa1, sk2, sf3, sc4, sz5⟩ := sq
  obtain ⟨k1, k2, k3, k4, k5, k6, k7⟩ := hk
  obtain rfl : sa = sa1 := (k1 (wmem_no rfl)).symm
  obtain rfl : sk = sk2 := (k2).symm
  obtain rfl : sf = sf3 := (k3 (wmem_no rfl)).symm
  obtain rfl : sc = sc4 := (k5 (wmem_no rfl)).symm
  obtain rfl : sz = sz5 := (k6 (wmem_no rfl)).symm
  cases (show vq = none from hv)
  change Rn _ _ _ _ _ _ _ _ _ _ [] _ _
  refine n_ld rfl rfl rfl ?_
  refine n_get (v := .ref 1) rfl (hv_R (a := 0) rfl rfl) ?_
  refine n_tt [.ref 1] [] rfl rfl rfl rfl (Tt.imp h (fun v11 sq h => ?_))
  obtain ⟨sa6, sk7, sf8, sc9, sz10⟩ := sq
  obtain ⟨rfl, h⟩ := h
  change Rn _ _ _ _ _ _ _ _ _ _ [] _ _
  refine n_ld rfl rfl rfl ?_
  refine n_getI (a := 0) rfl rfl rfl (fun x12 hl hu => ?_)
  replace h := h x12 hl hu
  refine n_brP rfl rfl ⟨fun hcn => ?_, fun hcn => ?_⟩
  · replace h := h.1 ((i_eq (x := x12) (y := 0) rfl (show (0 : Int32).toInt = 0 by decide)).mp hcn)
    refine n_c [.int (-1)] (xo_push (.int (-1))) rfl rfl ?_
    exact k_152_20_39 hd hc  h
  · replace h := h.2 (fun q => hcn ((i_eq (x := x12) (y := 0) rfl (show (0 : Int32).toInt = 0 by decide)).mpr q))
    refine n_ld rfl rfl rfl ?_
    refine n_get (v := .ref 85) rfl (hv_R (a := 0) rfl rfl) ?_
    refine n_ld rfl rfl rfl ?_
    refine n_get (v := .ref 39) rfl (hv_C (a := 0) (n := 0) rfl rfl rfl) ?_
    refine n_ld rfl rfl rfl ?_
    refine n_tt [.ref 85, .ref 39, .int a1] [] rfl rfl rfl rfl (Tt.imp h (fun v18 sq h => ?_))
    obtain ⟨sa13, sk14, sf15, sc16, sz17⟩ := sq
    obtain ⟨x19, rfl, h⟩ := h
    change Rn _ _ _ _ _ _ _ _ _ _ [.int x19] _ _
    refine n_go rfl ?_
    exact k_152_20_39 hd hc  h
theorem t_152_39 {d : Nat} (hc : ∀ p ∈ s_w152, CTR (yex (d + 4)) p.1 p.2) {a1 : Int32} {sa : Int32} {sk : Int32} {sf : Int32} {sc : Int32} {sz : Int32} {Q : Option Value → sW → Prop} (h : w_152_0 (fun k => Tt (d + 4) wdL (wk_152 39 k) (wk_152 39 k)) 39 a1 sa sk sf sc sz Q) : Tt (d + 5) wdL (((84, 5), 39, [(0, 9, 39)]) : wW) (((84, 5), 39, [(0, 9, 39)]) : wW) 152 [.ref 0, .int a1] (sa, sk, sf, sc, sz) Q := tt_of (E := xE_152) (L := xL_11) (ml := 2) (ret := some .int) rfl rfl rfl (k_152_0_39 rfl hc h)
