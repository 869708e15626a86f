/-! ===== the class: program; what stays of the run's fields (generated: wip/p5/mk140k.py) ===== -/
/-- the fields of a loaded program and of a run -/
def KZ (s s' : zS) : Prop := ∀ a k, (a = 0 ∧ (k = 11 ∨ k = 12)) ∨ (a = 105 ∧ (k = 10 ∨ k = 11 ∨ k = 12 ∨ k = 13)) ∨ (a = 197 ∧ (k = 8 ∨ k = 9)) → s'.1 a k = s.1 a k
theorem KZ_rf {s : zS} : KZ s s := fun _ _ _ => rfl
theorem KZ_tr {s u w : zS} (a : KZ s u) (b : KZ u w) : KZ s w := fun x k h => (b x k h).trans (a x k h)
theorem kzf_if {a k : Nat} (h : (a = 0 ∧ (k = 11 ∨ k = 12)) ∨ (a = 105 ∧ (k = 10 ∨ k = 11 ∨ k = 12 ∨ k = 13)) ∨ (a = 197 ∧ (k = 8 ∨ k = 9))) : isIf a k = true := by
  rcases h with ⟨rfl, rfl | rfl⟩ | ⟨rfl, rfl | rfl | rfl | rfl⟩ | ⟨rfl, rfl | rfl⟩ <;> decide +kernel
/-- W writes none of them -/
def kzW (W : List (Nat × Nat)) : Bool := !(wmem (11, 11) W) && (!(wmem (11, 12) W) && (!(wmem (2, 11) W) && (!(wmem (2, 12) W) && (!(wmem (2, 13) W) && (!(wmem (2, 10) W) && (!(wmem (8, 8) W) && !(wmem (8, 9) W)))))))
theorem KZ_of {W : List (Nat × Nat)} {h h' : xH} {s s' : zS} {cs sl : Nat} (hW : kzW W = true) (hs : zI h s) (hs' : zI h' s') (hc : CST W h h' cs sl) : KZ s s' := fun a k hk => by
  have hI := kzf_if hk
  have e := hc.2.1.2 a k (isIf_lt hI) (by
    unfold kzW at hW
    rw [Bool.and_eq_true, Bool.and_eq_true, Bool.and_eq_true, Bool.and_eq_true, Bool.and_eq_true, Bool.and_eq_true, Bool.and_eq_true, Bool.not_eq_true', Bool.not_eq_true', Bool.not_eq_true', Bool.not_eq_true', Bool.not_eq_true', Bool.not_eq_true', Bool.not_eq_true', Bool.not_eq_true'] at hW
    obtain ⟨w1, w2, w3, w4, w5, w6, w7, w8⟩ := hW
    rcases hk with ⟨rfl, rfl | rfl⟩ | ⟨rfl, rfl | rfl | rfl | rfl⟩ | ⟨rfl, rfl | rfl⟩
    · exact wmem_no (q := (11, 11)) w1
    · exact wmem_no (q := (11, 12)) w2
    · exact wmem_no (q := (2, 10)) w6
    · exact wmem_no (q := (2, 11)) w3
    · exact wmem_no (q := (2, 12)) w4
    · exact wmem_no (q := (2, 13)) w5
    · exact wmem_no (q := (8, 8)) w7
    · exact wmem_no (q := (8, 9)) w8)
  rw [hs.1 a k hI, hs'.1 a k hI] at e
  exact Value.int.inj (Option.some.inj e)
/-- without what is made -/
def KZo (s s' : zS) : Prop := ∀ a k, (a = 0 ∧ (k = 11 ∨ k = 12)) ∨ (a = 105 ∧ (k = 10 ∨ k = 11 ∨ k = 12 ∨ k = 13)) → s'.1 a k = s.1 a k
theorem KZ_o {s s' : zS} (h : KZ s s') : KZo s s' := fun a k w => h a k (by omega)
theorem ic_of {a k : Nat} {W : List (Nat × Nat)} {h h' : xH} {s s' : zS} {cs sl : Nat} (hI : isIf a k = true) (hw : wmem (wc a, k) W = false) (hs : zI h s) (hs' : zI h' s') (hc : CST W h h' cs sl) : s'.1 a k = s.1 a k := by
  have e := hc.2.1.2 a k (isIf_lt hI) (wmem_no hw)
  rw [hs.1 a k hI, hs'.1 a k hI] at e
  exact Value.int.inj (Option.some.inj e)
theorem yex_u {d d' j : Nat} {vs : List Value} {h : xH} {r r' : Option Value × xH × Nat × Nat} (e : yex d j vs h = some r) (e' : yex d' j vs h = some r') : r = r' := by
  have a := yex_mono (Nat.le_add_right d d') j vs h _ e
  have b := yex_mono (Nat.le_add_left d' d) j vs h _ e'
  rw [a] at b
  exact Option.some.inj b
theorem ws_z {P : Nat} {c : List (Nat × Nat × Nat)} {h : xH} {s : zS} (hP : P = 3 ∨ P = 39) (hz : zI h s) (hJ : (s.1 (42 - P) 10).toInt ≤ 1200000000) (hr : ∀ p ∈ c, fld h p.1 p.2.1 = some (.ref p.2.2)) : wsQ ((84, 5), P, c) h (s.1 84 5, s.1 P 10, s.1 P 14, s.1 (P + 34) 2, s.1 1 2) := by
  rcases hP with rfl | rfl
  · exact ⟨⟨hz.1 84 5 (by decide +kernel), hz.1 3 10 (by decide +kernel), hz.1 3 14 (by decide +kernel), hz.1 37 2 (by decide +kernel), hz.1 1 2 (by decide +kernel), _, hz.1 39 10 (by decide +kernel), Or.inl hJ⟩, hr⟩
  · exact ⟨⟨hz.1 84 5 (by decide +kernel), hz.1 39 10 (by decide +kernel), hz.1 39 14 (by decide +kernel), hz.1 73 2 (by decide +kernel), hz.1 1 2 (by decide +kernel), _, hz.1 3 10 (by decide +kernel), Or.inl hJ⟩, hr⟩
theorem z37k {P d : Nat} {s : zS} {Q : Option Value → zS → Prop} (hP : P = 3 ∨ P = 39) (hJ : (s.1 (42 - P) 10).toInt ≤ 1200000000) (h : Zt d (wd P 37) 37 [.ref P, .ref 1] s Q) : Zt d (wd P 37) 37 [.ref P, .ref 1] s (fun v s' => Q v s' ∧ KZ s s' ∧ s'.1 (42 - P) 10 = s.1 (42 - P) 10) := fun hh hI hq => by
  obtain ⟨v, h', cs, sl, s', p1, p2, p3, p4⟩ := h hh hI hq
  have hw : wsQ (wk_37 P 0) hh (s.1 84 5, s.1 P 10, s.1 P 14, s.1 (P + 34) 2, s.1 1 2) := ws_z hP hq.1 hJ (fun p hp => by cases hp)
  obtain ⟨v2, h2, cs2, sl2, s2, -, -, q3, q4⟩ := v_BG (D := 37) hP (by decide) h_w37 (s.1 84 5) (s.1 P 10) (s.1 P 14) (s.1 (P + 34) 2) (s.1 1 2) (fun _ _ => True) trivial hh hI hw
  have e := yex_u p4 q4
  simp only [Prod.mk.injEq] at e
  obtain ⟨-, e2, e3, e4⟩ := e
  rw [← e2, ← e3, ← e4] at q3
  refine ⟨v, h', cs, sl, s', ⟨p1, KZ_of (by decide +kernel) hq.1 p2 q3, ?_⟩, p2, p3, p4⟩
  have g := p3.2
  rcases hP with rfl | rfl
  · exact (g.2.1.2 (by decide +kernel) (by decide +kernel)).2.1
  · exact (g.1.2 (by decide +kernel) (by decide +kernel)).2.1
theorem z5k {P d : Nat} {U : List (Nat × Nat)} {c' : zW} {s : zS} {Q : Option Value → zS → Prop} (hP : P = 3 ∨ P = 39) (h0 : 0 ≤ (s.1 P 10).toInt) (h1 : (s.1 P 10).toInt ≤ 70000000) (hz : (s.1 (P + 34) 2).toInt = 0) (hJ : (s.1 (42 - P) 10).toInt ≤ 1200000000) (h : Zu d U [(75, 0, P), (75, 1, P + 18), (75, 2, P + 22)] c' 5 [.ref 84, .ref P] s Q) : Zu d U [(75, 0, P), (75, 1, P + 18), (75, 2, P + 22)] c' 5 [.ref 84, .ref P] s (fun v s' => Q v s' ∧ KZ s s') := fun hh hI hq => by
  obtain ⟨v, h', cs, sl, s', p1, p2, p3, p4⟩ := h hh hI hq
  have hw : wsQ (wk_5 P 0) hh (s.1 84 5, s.1 P 10, s.1 P 14, s.1 (P + 34) 2, s.1 1 2) := ws_z hP hq.1 hJ hq.2
  obtain ⟨v2, h2, cs2, sl2, s2, -, -, q3, q4⟩ := v_CK (D := 37) hP (by decide) hE_all h_w5 (s.1 84 5) (s.1 P 10) (s.1 P 14) (s.1 (P + 34) 2) (s.1 1 2) (fun _ _ => True) h0 h1 ⟨by omega, by omega, by omega⟩ (fun _ _ _ _ _ _ => trivial) hh hI hw
  have e := yex_u p4 q4
  simp only [Prod.mk.injEq] at e
  obtain ⟨-, e2, e3, e4⟩ := e
  rw [← e2, ← e3, ← e4] at q3
  exact ⟨v, h', cs, sl, s', ⟨p1, KZ_of (by decide +kernel) hq.1 p2.1 q3⟩, p2, p3, p4⟩
/-- the text's rows stay -/
def TXk (P : Nat) (s u : zS) : Prop := ∀ r ∈ [2, 6, 8], u.2 (P + r) = s.2 (P + r)
theorem TX_5 {P : Nat} {s s' : zS} (hP : P = 3 ∨ P = 39) (g : FVz (wrt [(75, 0, P), (75, 1, P + 18), (75, 2, P + 22)] 5 [.ref 84, .ref P]) s s') : TXk P s s' := by
  rcases hP with rfl | rfl
  · exact fun r hr => g.2.2.1 (3 + r) ((show ∀ r ∈ [2, 6, 8], ¬ mrR (3 + r) = 0 by decide) r hr) ((show ∀ r ∈ [2, 6, 8], ¬ (0, mrR (3 + r)) ∈ wrt [(75, 0, 3), (75, 1, 3 + 18), (75, 2, 3 + 22)] 5 [.ref 84, .ref 3] by decide +kernel) r hr)
  · exact fun r hr => g.2.2.1 (39 + r) ((show ∀ r ∈ [2, 6, 8], ¬ mrR (39 + r) = 0 by decide) r hr) ((show ∀ r ∈ [2, 6, 8], ¬ (0, mrR (39 + r)) ∈ wrt [(75, 0, 39), (75, 1, 39 + 18), (75, 2, 39 + 22)] 5 [.ref 84, .ref 39] by decide +kernel) r hr)
section ZZWA
variable {P N : Nat} {s : zS}
set_option maxHeartbeats 8000000 in
theorem zs_140k {Q : zS → Prop} (hP : P = 3 ∨ P = 39) (hJ : (s.1 (42 - P) 10).toInt ≤ 1200000000) (hn : (s.1 1 2).toInt = (N : Int)) (hn4 : N ≤ 4000) (hS : SGz P s) (hQ : ∀ (s8 z : zS) (ar : Int → Int), TXT s P N z → GDk (KI (z.2 (P + 4))) (KI (z.2 (P + 6))) ar (ntk (z.2 (P + 2)) N) → (s8.1 P 14).toInt = pgF (KI (z.2 (P + 4))) (KI (z.2 (P + 6))) (KI (z.2 (P + 10))) ar → ((s8.1 P 14).toInt = 0 → LDq (KI (z.2 (P + 4))) (KI (z.2 (P + 6))) (KI (z.2 (P + 10))) ar (ntk (z.2 (P + 2)) N) P s8 ∧ TXk P z s8) → KZ s s8 → Q s8) : v_140x 0 P s Q := by
  unfold v_140x
  refine Zt.imp (z37k hP hJ (Zt.mo (d := 14) (by omega) (zs_37 (d := 0) hP hn hn4))) ?_
  rintro v1 s1 ⟨⟨rfl, t1, t2, t3, t4, t5, t34⟩, kz1, kj1⟩
  refine ⟨rfl, by omega, ?_⟩
  refine Zu.imp (Zu.mo (d := 18) (by omega) (zs_81 (d := 0) hP)) ?_
  rintro v2 s2 ⟨rfl, a1, a2, a3⟩
  refine ⟨rfl, ?_⟩
  have a1 : s2.2 = s1.2 := a1
  have f2 : ∀ b q, ¬ (b = 75 ∧ (q = 3 ∨ q = 4 ∨ q = 5 ∨ q = 6)) → ¬ (b = 1 ∧ q = 2) → s2.1 b q = s1.1 b q := fun b q h1 h2 => by rw [a3 b q h1, zf_1, if_neg h2]
  have hX := TXp_of t1 hn4
  have hM := SMz_of t1
  obtain ⟨n, hnn⟩ : ∃ n : Int, n = (ntk (s1.2 (P + 2)) N : Int) := ⟨_, rfl⟩
  obtain ⟨K, hK⟩ : ∃ K, K = KI (s1.2 (P + 4)) := ⟨_, rfl⟩
  obtain ⟨L, hL⟩ : ∃ L, L = KI (s1.2 (P + 6)) := ⟨_, rfl⟩
  obtain ⟨W, hW⟩ : ∃ W, W = KI (s1.2 (P + 10)) := ⟨_, rfl⟩
  have hQ' : ∀ (s8 : zS) (ar : Int → Int), GDk K L ar n → (s8.1 P 14).toInt = pgF K L W ar → ((s8.1 P 14).toInt = 0 → LDq K L W ar n P s8 ∧ TXk P s1 s8) → KZ s1 s8 → Q s8 := fun s8 ar g e l kk => hQ s8 s1 ar t1 (by rw [← hK, ← hL, ← hnn]; exact g) (by rw [← hK, ← hL, ← hW]; exact e) (by rw [← hK, ← hL, ← hW, ← hnn]; exact l) (KZ_tr kz1 kk)
  have kz2 : KZ s1 s2 := fun a k h => f2 a k (by omega) (by omega)
  have kj2 : s2.1 (42 - P) 10 = s1.1 (42 - P) 10 := f2 (42 - P) 10 (by omega) (by omega)
  rw [← hK, ← hL, ← hnn] at hX
  rw [← hK, ← hW, ← hnn] at hM
  have z5 : (s2.1 P 14).toInt = 0 := by
    rw [f2 P 14 (by omega) (by omega)]
    exact t5
  refine Zu.imp (Zu.mo (d := 61) (by omega) (zu_ar hP (zs_61 hP hX (by rw [a1]; exact hK.symm) (by rw [a1]; exact hL.symm) (fun r hr => by
    have := rw_b r hr
    have q := t3 r hr
    unfold zsz at q ⊢
    rw [f2 (P + r) 2 (by omega) (by omega)]
    exact q)))) ?_
  rintro v3 s3 ⟨⟨rfl, c1, c2, c3⟩, har⟩
  rw [z5] at c1 c3
  have kz3 : KZ s1 s3 := fun a k h => (c2.1 a k (by clear c3; omega) (by clear c3; omega) (by clear c3; omega) (fun r _ => by clear c3; omega)).trans (kz2 a k h)
  have kj3 : s3.1 (42 - P) 10 = s1.1 (42 - P) 10 := (c2.1 (42 - P) 10 (by clear c3; omega) (by clear c3; omega) (by clear c3; omega) (fun r _ => by clear c3; omega)).trans kj2
  refine ⟨rfl, ?_⟩
  by_cases hf : (p_pg K L (0, 0)).1 = 0
  rotate_left
  · have h3 : ¬ (s3.1 P 14).toInt = 0 := by rw [c1]; exact hf
    refine Zu.imp (Zu.mo (d := 9) (by omega) (zs_122x (d := 0) hP h3)) ?_
    rintro v4 s4 ⟨rfl, e4⟩
    rw [e4]
    refine ⟨rfl, Zu.imp (Zu.mo (d := 9) (by omega) (zs_128x (d := 0) hP h3)) ?_⟩
    rintro v5 s5 ⟨rfl, e5⟩
    rw [e5]
    refine ⟨rfl, Zu.imp (Zu.mo (d := 9) (by omega) (zs_134x (d := 0) hP h3)) ?_⟩
    rintro v6 s6 ⟨rfl, e6⟩
    rw [e6]
    refine ⟨rfl, Zu.imp (Zu.mo (d := 9) (by omega) (zs_136x (d := 0) hP h3)) ?_⟩
    rintro v7 s7 ⟨rfl, e7⟩
    rw [e7]
    refine ⟨rfl, Zu.imp (Zu.mo (d := 9) (by omega) (zs_5x (d := 0) hP h3)) ?_⟩
    rintro v8 s8 ⟨rfl, e8⟩
    rw [e8]
    refine ⟨rfl, hQ' _ (fun _ => 0) (fun z => absurd z hf) ?_ (fun z => absurd z h3) kz3⟩
    unfold pgF
    rw [ffs_1 hf]
    exact c1
  · obtain ⟨m, w1, w2, w3, w4, w5, w6, w7, w8, w9, w10⟩ := c3 hf
    obtain ⟨Ls, hLs⟩ : ∃ Ls, Ls = l_al K L 4000 0 0 (0, 0) := ⟨_, rfl⟩
    rw [← hLs] at w1 w2 w4 w5
    have hC : dcC K L 0 m Ls := by
      rw [w3, hLs]
      exact dcC_al 4000 0 0 0 w10
    have hlt : m + 1 < (p_e K L 10 false (0, m + 1)).2 := (pe_fw (K := K) (L := L) 10 false (0, m + 1) w8).2
    have hn0 := hX.1
    have hmn : m ≤ n := by omega
    have hm4 : m ≤ 4000 := by omega
    have rr : ∀ a, ¬ a = P + 12 → ¬ a = P + 22 → (∀ r ∈ rwL, ¬ a = P + r) → s3.2 a = s1.2 a := fun a g1 g2 g3 => by rw [c2.2 a g1 g2 g3, a1]
    have lo18 : ∀ a, a < 12 → s3.2 (P + a) = s1.2 (P + a) := fun a ha => rr (P + a) (by omega) (by omega) (fun r hr => by have := rw_b r hr; omega)
    have e4 : KI (s3.2 (P + 4)) = K := by rw [lo18 4 (by omega)]; exact hK.symm
    have e6 : KI (s3.2 (P + 6)) = L := by rw [lo18 6 (by omega)]; exact hL.symm
    have e10 : KI (s3.2 (P + 10)) = W := by rw [lo18 10 (by omega)]; exact hW.symm
    have hM3 : SMz P s3 K W n := by
      unfold SMz okT eqT zpl zln at hM ⊢
      rw [lo18 2 (by omega), lo18 6 (by omega), lo18 8 (by omega)]
      exact hM
    have hD := DB_of hC (Int.le_refl 0) hmn e4 e6 e10 hM3 w1 w2 w4
    obtain ⟨ar, hAr⟩ : ∃ ar, ar = KI (s3.2 (P + 22)) := ⟨_, rfl⟩
    rw [← hAr] at hD har
    have hAt : ∀ (i : Nat) (t : Int), Ls[i]? = some t → ¬ K t = 6 → ar (kTy K (Ls.take i) : Int) = ((tFo K L false (0, t)).length : Int) := fun i t h1 h6 => by
      obtain ⟨-, q, -⟩ := (w2 i t h1).2 h6
      rw [hAr, KI_n]
      exact q
    have hG : GDk K L ar n := fun _ => by
      rw [← hLs, ← w3]
      exact ⟨har, hAt, ⟨w4, w5⟩, w10, w8, w9⟩
    have ePG : pgF K L W ar = ffs (lvF K L W ar Ls (m + 1)) := by
      unfold pgF
      rw [ffs_2 hf, ← hLs, ← w3]
    have h14 : (s3.1 P 14).toInt = 0 := by rw [c1]; exact hf
    -- names told twice
    refine Zu.imp (Zu.mo (d := 12) (by omega) (zs_122 hP hX w1 w2 hC (Int.le_refl 0) hmn hm4 w4 w5 e6 e10 (fun t' _ => me_le) h14)) ?_
    rintro v4 s4 ⟨rfl, d1, d2, r, d3, d4⟩
    have kz4 : KZ s1 s4 := fun a k h => (d2 a k (by clear c3; omega)).trans (kz3 a k h)
    have kj4 : s4.1 (42 - P) 10 = s1.1 (42 - P) 10 := (d2 (42 - P) 10 (by clear c3; omega)).trans kj3
    refine ⟨rfl, ?_⟩
    have hF2 : (s4.1 P 14).toInt = frst L (twA W K L Ls Ls.length) 0 := by rw [d4, twA_f hX hC (Int.le_refl 0) hmn d3]
    by_cases g2 : (s4.1 P 14).toInt = 0
    rotate_left
    · refine Zu.imp (Zu.mo (d := 9) (by omega) (zs_128x (d := 0) hP g2)) ?_
      rintro v5 s5 ⟨rfl, e5⟩
      rw [e5]
      refine ⟨rfl, Zu.imp (Zu.mo (d := 9) (by omega) (zs_134x (d := 0) hP g2)) ?_⟩
      rintro v6 s6 ⟨rfl, e6⟩
      rw [e6]
      refine ⟨rfl, Zu.imp (Zu.mo (d := 9) (by omega) (zs_136x (d := 0) hP g2)) ?_⟩
      rintro v7 s7 ⟨rfl, e7⟩
      rw [e7]
      refine ⟨rfl, Zu.imp (Zu.mo (d := 9) (by omega) (zs_5x (d := 0) hP g2)) ?_⟩
      rintro v8 s8 ⟨rfl, e8⟩
      rw [e8]
      refine ⟨rfl, hQ' _ ar hG ?_ (fun z => absurd z g2) kz4⟩
      rw [ePG]
      unfold lvF
      rw [ffs_1 (by rw [← hF2]; exact g2)]
      exact hF2
    have g2' : frst L (twA W K L Ls Ls.length) 0 = 0 := by rw [← hF2]; exact g2
    have noS : ∀ v, ¬ SA W K L Ls v := by
      rcases d3 with ⟨-, q⟩ | ⟨q1, q2⟩
      · exact q
      · exfalso
        have q3 := SA_lt hC (Int.le_refl 0) (by omega) q1
        have q4 := hX.2.2 r q3.1 (by omega)
        rw [if_pos (by omega)] at d4
        omega
    have hT34 : TAf P s3 s4 := ⟨fun b q h1 _ => d2 b q (fun w => h1 ⟨w.1, Or.inr w.2⟩), fun r _ _ _ _ _ => by rw [d1], fun i _ => by rw [d1], fun i _ => by rw [d1], fun i _ _ => by rw [d1], fun i _ => by rw [d1]⟩
    have hD4 := DBz_f hP hT34 hD
    have hz4 : ∀ r ∈ rwL, zsz s4 (P + r) = zsz s3 (P + r) := fun r hr => by
      unfold zsz
      rw [d2 (P + r) 2 (by omega)]
    have w1' := RWz_2 d1 hz4 w1
    have w2' := ALz_2 d1 w2
    have f3 : ∀ b q, ¬ (b = 82 ∧ q = 3) → ¬ (b = P ∧ q = 14) → ¬ (b = P ∧ q = 11) → (∀ r ∈ rwL, ¬ (b = P + r ∧ q = 2)) → s4.1 b q = s2.1 b q := fun b q h1 h2 h3 h4 => by rw [d2 b q h2, c2.1 b q h1 h2 h3 h4]
    have h10 : (s4.1 P 10).toInt = 18738 := by
      rw [f3 P 10 (by omega) (by omega) (by omega) (fun r hr => by omega), f2 P 10 (by omega) (by omega)]
      exact t4
    have h75 : (s4.1 75 3).toInt = 18 := by
      rw [f3 75 3 (by omega) (by omega) (by omega) (fun r hr => by omega)]
      exact a2
    have hSG : SGz P s4 := fun i hi => by
      rw [d1, rr (P + 18) (by omega) (by omega) (fun r hr => by have := rw_b r hr; omega), t2 (P + 18) (by unfold tkR; simp only [List.mem_cons, List.not_mem_nil, or_false, not_or]; omega)]
      exact hS i hi
    -- TYPES told
    refine Zu.imp (Zu.mo (d := 35) (by omega) (zs_128 hP hX hD4 w1' w2' hC (Int.le_refl 0) hmn hm4 rfl w5 g2 h10)) ?_
    rintro v5 s5 ⟨rfl, b1, b2, b3⟩
    have kz5 : KZ s1 s5 := fun a k h => (b1.1 a k (by clear c3; omega) (by clear c3; omega)).trans (kz4 a k h)
    have kj5 : s5.1 (42 - P) 10 = s1.1 (42 - P) 10 := (b1.1 (42 - P) 10 (by clear c3; omega) (by clear c3; omega)).trans kj4
    refine ⟨rfl, ?_⟩
    by_cases g3 : (s5.1 P 14).toInt = 0
    rotate_left
    · refine Zu.imp (Zu.mo (d := 9) (by omega) (zs_134x (d := 0) hP g3)) ?_
      rintro v6 s6 ⟨rfl, e6⟩
      rw [e6]
      refine ⟨rfl, Zu.imp (Zu.mo (d := 9) (by omega) (zs_136x (d := 0) hP g3)) ?_⟩
      rintro v7 s7 ⟨rfl, e7⟩
      rw [e7]
      refine ⟨rfl, Zu.imp (Zu.mo (d := 9) (by omega) (zs_5x (d := 0) hP g3)) ?_⟩
      rintro v8 s8 ⟨rfl, e8⟩
      rw [e8]
      refine ⟨rfl, hQ' _ ar hG ?_ (fun z => absurd z g3) kz5⟩
      rw [ePG]
      unfold lvF
      rw [ffs_2 g2', ffs_1 (by rw [← b2]; exact g3)]
      exact b2
    have g3' : ffs (alFs K L W ar (kdF K L Ls) (tnF K Ls) (hfS K L Ls) 0 Ls) = 0 := by rw [← b2]; exact g3
    have hPR : PRm K L W ar (kdF K L Ls) n 0 m (tnF K Ls) Ls := ⟨⟨hX, hC, Int.le_refl 0, hmn⟩, rfl, ⟨w4, w5⟩, har, fun i t q1 q6 => ⟨hAt i t q1 q6, kdF_at q1 q6⟩, fun c hc => kdF_no hc, g3', noS⟩
    obtain ⟨C5, k18⟩ := CS_k hP hC (Int.le_refl 0) hm4 hm4 hD4 hSG w1' w2' b1 (b3 g3)
    have h75' : (s5.1 75 3).toInt = 18 := by
      rw [b1.1 75 3 (by omega) (by omega)]
      exact h75
    have r5 : s5.2 (P + 12) = s3.2 (P + 12) := by rw [b1.2.1 (P + 12) (by omega) (by omega) (by omega) (by omega) (by omega), d1]
    have f11 : (s5.1 P 11).toInt = m + 1 := by
      rw [b1.1 P 11 (by omega) (by omega), d2 P 11 (by omega)]
      exact w6
    -- bounds
    refine Zu.imp (Zu.mo (d := 13) (by omega) (zs_134 (T := 18) (mv := mvF K L W ar Ls) hP hPR C5 h75' (by decide) g3 rfl)) ?_
    rintro v6 s6 ⟨rfl, l1, l2, l3⟩
    have kz6 : KZ s1 s6 := fun a k h => (l2 a k (by clear c3; omega) (by clear c3; omega)).trans (kz5 a k h)
    have kj6 : s6.1 (42 - P) 10 = s1.1 (42 - P) 10 := (l2 (42 - P) 10 (by clear c3; omega) (by clear c3; omega)).trans kj5
    refine ⟨rfl, ?_⟩
    by_cases g4 : (s6.1 P 14).toInt = 0
    rotate_left
    · refine Zu.imp (Zu.mo (d := 9) (by omega) (zs_136x (d := 0) hP g4)) ?_
      rintro v7 s7 ⟨rfl, e7⟩
      rw [e7]
      refine ⟨rfl, Zu.imp (Zu.mo (d := 9) (by omega) (zs_5x (d := 0) hP g4)) ?_⟩
      rintro v8 s8 ⟨rfl, e8⟩
      rw [e8]
      refine ⟨rfl, hQ' _ ar hG ?_ (fun z => absurd z g4) kz6⟩
      rw [ePG]
      unfold lvF
      rw [ffs_2 g2', ffs_2 g3', ffs_1 (by rw [← l3]; exact g4)]
      exact l3
    have g4' : ffs (dLs K L W ar (mvF K L W ar Ls) (tnF K Ls) Ls).flatten = 0 := by rw [← l3]; exact g4
    have C6 := CSz_rf hP (Int.le_refl 18) l1 (fun b => l2 b 2 (by omega) (by omega)) C5
    -- structs that hold themselves
    refine Zu.imp (Zu.mo (d := 18) (by omega) (zs_136 hP hPR C6 g4)) ?_
    rintro v7 s7 ⟨rfl, y1, y2, y3⟩
    have kz7 : KZ s1 s7 := fun a k h => (y2 a k (by clear c3; omega)).trans (kz6 a k h)
    have kj7 : s7.1 (42 - P) 10 = s1.1 (42 - P) 10 := (y2 (42 - P) 10 (by clear c3; omega)).trans kj6
    refine ⟨rfl, ?_⟩
    by_cases g5 : (s7.1 P 14).toInt = 0
    rotate_left
    · refine Zu.imp (Zu.mo (d := 9) (by omega) (zs_5x (d := 0) hP g5)) ?_
      rintro v8 s8 ⟨rfl, e8⟩
      rw [e8]
      refine ⟨rfl, hQ' _ ar hG ?_ (fun z => absurd z g5) kz7⟩
      rw [ePG]
      unfold lvF
      rw [ffs_2 g2', ffs_2 g3', ffs_2 g4', ffs_1 (by rw [← y3]; exact g5)]
      exact y3
    have g5' : ffs (L5 (eg5 K L W (kdF K L Ls) (tnF K Ls) Ls) L (tnF K Ls)) = 0 := by rw [← y3]; exact g5
    have C7' := CSz_rf (T := 18) (u := s6) (w := s7) hP (Int.le_refl 18) ⟨fun r _ _ _ _ => by rw [y1], fun j _ => by rw [y1]⟩ (fun b => y2 b 2 (by omega)) C6
    have r7 : s7.2 (P + 12) = s3.2 (P + 12) := by rw [y1, l1.1 (P + 12) (by omega) (by omega) (by omega) (by omega), r5]
    have k10 : (s7.1 P 10).toInt = (s5.1 P 10).toInt := by rw [y2 P 10 (by omega), l2 P 10 (by omega) (by omega)]
    have f11' : (s7.1 P 11).toInt = m + 1 := by
      rw [y2 P 11 (by omega), l2 P 11 (by omega) (by omega)]
      exact f11
    have enx : nxE K L (m + 1) = (p_e K L 10 false (0, m + 1)).2 := (pe_g 10 (by decide) false (m + 1) w8).2.2
    have h34 : (s7.1 (P + 34) 2).toInt = 0 := by
      rw [y2 (P + 34) 2 (by omega), l2 (P + 34) 2 (by omega) (by omega), b1.1 (P + 34) 2 (by omega) (by omega), f3 (P + 34) 2 (by omega) (by omega) (by omega) (fun r hr => by have := rw_b r hr; omega), f2 (P + 34) 2 (by omega) (by omega)]
      exact t34
    -- E
    have kb := C7'.2.2.2.2.1.2
    refine Zu.imp (Zu.fr (z5k hP (by omega) (by omega) h34 (by rw [kj7, kj1]; exact hJ) (zs_5 hP hPR C7' k10 k18 g5 (fun i t q1 q6 => ?_) f11' w8 (by omega) (by rw [enx]; exact w9) ?_ h34))) ?_
    · have q := ((w2 i t q1).1 q6).2.2.2.1
      exact fun x x1 x2 => by rw [r7]; exact q x x1 x2
    · rw [enx]
      exact fun x x1 x2 => by rw [r7]; exact w7 x x1 x2
    rintro v8 s8 ⟨⟨⟨rfl, o1, o2⟩, kz8⟩, gv8⟩
    have tx8 := TX_5 hP gv8
    refine ⟨rfl, hQ' _ ar hG ?_ (fun z => ?_) (KZ_tr kz7 kz8)⟩
    · rw [ePG]
      unfold lvF
      rw [ffs_2 g2', ffs_2 g3', ffs_2 g4', ffs_2 g5', o1]
      show _ = if _ = 0 then (0 : Int) else _
      split
      · assumption
      · rfl
    · refine ⟨⟨Ls, m, (s5.1 P 10).toInt, ⟨hLs, w3⟩, hPR, o2 z, by rw [← o1]; exact z, w8⟩, fun r hr => ?_⟩
      have hr' : r = 2 ∨ r = 6 ∨ r = 8 := by simpa using hr
      clear hr
      rcases hr' with rfl | rfl | rfl
      · rw [tx8 2 (by decide), y1, l1.1 (P + 2) (by omega) (by omega) (by omega) (by omega), b1.2.1 (P + 2) (by omega) (by omega) (by omega) (by omega) (by omega), d1]
        exact lo18 2 (by decide)
      · rw [tx8 6 (by decide), y1, l1.1 (P + 6) (by omega) (by omega) (by omega) (by omega), b1.2.1 (P + 6) (by omega) (by omega) (by omega) (by omega) (by omega), d1]
        exact lo18 6 (by decide)
      · rw [tx8 8 (by decide), y1, l1.1 (P + 8) (by omega) (by omega) (by omega) (by omega), b1.2.1 (P + 8) (by omega) (by omega) (by omega) (by omega) (by omega), d1]
        exact lo18 8 (by decide)
end ZZWA
