/-! ===== the class: findHoldingItself ===== -/
/-- what is held by one that is held is held -/
def clo (E : Nat → Nat → Prop) (x : Int32) : Prop := ∀ a c : Nat, x.toBitVec.getLsbD a = true → E a c → x.toBitVec.getLsbD c = true
/-- held by i, so far -/
def hld (E : Nat → Nat → Prop) (i : Nat) (x : Int32) : Prop := (∀ c : Nat, c < 32 → x.toBitVec.getLsbD c = true → c < 24 ∧ tcl E i c) ∧ ∀ c : Nat, E i c → x.toBitVec.getLsbD c = true
section ZCC
variable {K L W ar kd : Int → Int} {n lo hi k0 T : Int} {TN Ls : List Int} {P d : Nat} {s u : zS} {E : Nat → Nat → Prop} {i : Nat} {x : Int32}
theorem hld_c (h : hld E i x) (hc : clo E x) (hE : ∀ a c, E a c → a < 24 ∧ c < 24) {c : Nat} (hc32 : c < 32) : x.toBitVec.getLsbD c = true ↔ tcl E i c := by
  refine ⟨fun q => (h.1 c hc32 q).2, fun q => ?_⟩
  exact (q (fun a b => (a = i → x.toBitVec.getLsbD b = true) ∧ (x.toBitVec.getLsbD a = true → x.toBitVec.getLsbD b = true)) (fun a b g => ⟨fun e => h.2 b (by rw [← e]; exact g), fun e => hc a b e g⟩) (fun a b c g1 g2 => ⟨fun e => g2.2 (g1.1 e), fun e => g2.2 (g1.2 e)⟩)).1 rfl
theorem zs_136x (hP : P = 3 ∨ P = 39) (hf : ¬ (s.1 P 14).toInt = 0) : Zu (d + 9) [(83, 1), (83, 2)] [(75, 0, P), (75, 1, P + 18), (75, 2, P + 22)] [(83, 2, P + 1), (83, 1, P), (75, 0, P), (75, 1, P + 18), (75, 2, P + 22)] 136 [.ref 83, .ref P] s (fun v s' => v = none ∧ s' = s) := by
  refine zc_136 hP ?_
  unfold v_136_0
  refine ⟨fun _ w => w = s, fun _ _ => 0, rfl, ?_⟩
  rintro c2 w rfl
  unfold v_136_7
  exact ⟨fun _ => ⟨rfl, rfl⟩, fun _ => ⟨fun _ => ⟨rfl, rfl⟩, fun z => absurd z hf⟩⟩
set_option maxHeartbeats 4000000 in
theorem zs_136 (hP : P = 3 ∨ P = 39) (h : PRm K L W ar kd n lo hi TN Ls) (C : CSz K L W ar kd TN Ls n k0 P u) (hf : (u.1 P 14).toInt = 0) : Zu 18 [(83, 1), (83, 2)] [(75, 0, P), (75, 1, P + 18), (75, 2, P + 22)] [(83, 2, P + 1), (83, 1, P), (75, 0, P), (75, 1, P + 18), (75, 2, P + 22)] 136 [.ref 83, .ref P] u (fun v s' => v = none ∧ s'.2 = u.2 ∧ (∀ b q, ¬ (b = P ∧ q = 14) → s'.1 b q = u.1 b q) ∧ (s'.1 P 14).toInt = ffs (L5 (eg5 K L W kd TN Ls) L TN)) := by
  have hnT := PR_nT h
  have h24 := h.2.2.1.1
  have hX := h.1.1
  obtain ⟨E, hEd⟩ : ∃ E, E = eg5 K L W kd TN Ls := ⟨_, rfl⟩
  have hEb : ∀ a c, E a c → a < kTy K Ls ∧ c < kTy K Ls := fun a c q => by
    rw [hEd] at q
    exact eg5_b h q
  have hE24 : ∀ a c, E a c → a < 24 ∧ c < 24 := fun a c q => by
    have := hEb a c q
    omega
  rw [← hEd]
  obtain ⟨Q, hQ⟩ : ∃ Q : Option Value → zS → Prop, Q = fun v s' => v = none ∧ s'.2 = u.2 ∧ (∀ b q, ¬ (b = P ∧ q = 14) → s'.1 b q = u.1 b q) ∧ (s'.1 P 14).toInt = ffs (L5 E L TN) := ⟨_, rfl⟩
  rw [← hQ]
  refine zc_136 (d := 9) hP ?_
  unfold v_136_0
  obtain ⟨I, hI⟩ : ∃ I : Int32 → zS → Prop, I = fun c2 w => w.2 = u.2 ∧ (∀ b q, ¬ (b = P ∧ q = 14) → w.1 b q = u.1 b q) ∧ ∃ i : Nat, i ≤ TN.length ∧ c2.toInt = (i : Int) ∧ (w.1 P 14).toInt = ffs ((L5 E L TN).take i) := ⟨_, rfl⟩
  refine ⟨I, fun c2 _ => (1000 - c2.toInt).toNat, by rw [hI]; exact ⟨rfl, fun _ _ _ => rfl, 0, Nat.zero_le _, by decide, by rw [hf, List.take_zero]; rfl⟩, ?_⟩
  intro c2 w hw
  rw [hI] at hw
  obtain ⟨g1, g2, i, g3, g4, g5⟩ := hw
  have Cw : CSz K L W ar kd TN Ls n k0 P w := CSz_rf (T := 18) hP (by decide) ⟨fun _ _ _ _ _ => by rw [g1], fun _ _ => by rw [g1]⟩ (fun b => g2 b 2 (fun z => absurd z.2 (by decide))) C
  have hcn : (w.1 (P + 24) 2 / 6).toInt = (TN.length : Int) := cn_ty (by rw [Cw.2.2.2.2.2.2.1.1, hnT]) (by omega)
  have ex : (w.1 P 14).toInt = ffs (L5 E L TN) → v_136_67 (fun j => Zt (9 + 8) (wd P j) j) P c2 w Q := fun e => by
    rw [hQ]
    exact ⟨rfl, g1, g2, e⟩
  unfold v_136_7
  rw [hcn]
  refine ⟨fun y => ex ?_, fun y => ⟨fun y1 => ex ?_, fun y1 => ?_⟩⟩
  · rw [g5, List.take_of_length_le (by rw [L5_len]; omega)]
  · rw [g5] at y1
    rw [g5, ffs_take y1]
  have hi : i < TN.length := by omega
  obtain ⟨tk, htk⟩ : ∃ tk, TN[i]? = some tk := ⟨_, List.getElem?_eq_getElem hi⟩
  have hL5 := L5_at (E := E) (L := L) htk
  refine Zt.imp (Zt.mo (d := 9) (by omega) (zs_137 (d := 0) (a := i) hP h Cw g4 (by omega))) ?_
  rintro v1 s2 ⟨hs2, x3, rfl, hx3⟩
  subst hs2
  rw [← hEd] at hx3
  refine ⟨x3, rfl, ?_⟩
  -- behind the rounds
  have nxt : ∀ (a3 a4 : Int32) (w' : zS), w'.2 = u.2 → (∀ b q, ¬ (b = P ∧ q = 14) → w'.1 b q = u.1 b q) → (w'.1 P 14).toInt = (if M5 E i = true then 8 + 16 * L tk else 0) → v_136_65 (fun j => Zt (9 + 8) (wd P j) j) P (fun c2' w' => I c2' w' ∧ (1000 - c2'.toInt).toNat < (1000 - c2.toInt).toNat) c2 a3 a4 w' Q := by
    intro a3 a4 w' q1 q2 q3
    unfold v_136_65
    intro x1 hx1
    have ex1 := hx1 (by omega)
    rw [hI]
    refine ⟨⟨q1, q2, i + 1, by omega, by omega, ?_⟩, by omega⟩
    rw [g5] at y1
    rw [take_s hL5, ffs_s, if_pos y1]
    exact q3
  refine ⟨fun b2 b3 b4 v => b2 = c2 ∧ v = s2 ∧ hld E i b3 ∧ ∃ r : Nat, r ≤ 24 ∧ b4.toInt = (r : Int) ∧ (clo E b3 ∨ r < cnb b3 24), fun _ _ b4 _ => (24 - b4.toInt).toNat, ⟨rfl, rfl, ⟨fun c hc q => ?_, fun c q => ?_⟩, 0, by decide, by decide, ?_⟩, ?_⟩
  · have := (hx3 c hc).mp q
    exact ⟨(hE24 _ _ this).2, tcl_e this⟩
  · exact (hx3 c (by have := (hE24 _ _ q).2; omega)).mpr q
  · by_cases z : ∃ c, c < 24 ∧ x3.toBitVec.getLsbD c = true
    · obtain ⟨c, z1, z2⟩ := z
      exact Or.inr (cnb_po 24 c z1 z2)
    · refine Or.inl (fun a c q e => absurd ⟨a, ?_, q⟩ z)
      exact (hE24 a c e).1
  rintro b2 b3 b4 v ⟨rfl, rfl, hh, r, r1, r2, r3⟩
  unfold v_136_22
  refine ⟨fun z => ?_, fun z => ?_⟩
  · have er : r = 24 := by omega
    have hcl : clo E b3 := by
      rcases r3 with q | q
      · exact q
      · have := cnb_le (x := b3) 24
        omega
    have tt := tb_test (x := b3) g4 (by omega : i < 24)
    have ti := hld_c hh hcl hE24 (c := i) (by omega)
    refine ⟨fun z1 => nxt _ _ v g1 g2 ?_, fun z1 => ?_⟩
    · have hM : ¬ M5 E i = true := fun q => by
        have q2 := ti.mpr (M5_i.mp q)
        rw [tt.mp z1] at q2
        exact absurd q2 (by decide)
      rw [if_neg hM]
      exact y1
    · have hM : M5 E i = true := by
        refine M5_i.mpr (ti.mp ?_)
        cases hb : b3.toBitVec.getLsbD i with
        | true => rfl
        | false => exact absurd (tt.mpr hb) z1
      have o0 : (0 : Int32).toInt = 0 := by decide
      have gt : (zg v (P + 24) (b2 * 6 + 0)).toInt = tk := by
        rw [zg_ty o0 (by decide) (by omega), g4]
        exact (Cw.1.2.2.1.2.2 i tk htk).1
      have hw := (Cw.1.2.2.1.2.2 i tk htk).2
      have hLt := hX.2.2 tk hw.1 hw.2.1
      have hKL := Cw.1.1.2.1
      refine Zt.imp (Zt.mo (d := 9) (by omega) (zs_38b (d := 0) (a1 := 8) hP (by rw [gt, hKL]; omega) (by decide))) ?_
      rintro v2 s3 ⟨rfl, q⟩
      refine ⟨rfl, ?_⟩
      rcases q with ⟨-, -, xx, q2, q3⟩ | ⟨q1, -⟩
      · refine nxt _ _ s3 (by rw [q3, zf_2]; exact g1) (fun b q z2 => by rw [q3, zf_1, if_neg z2]; exact g2 b q z2) ?_
        rw [q3, zf_1, if_pos ⟨rfl, rfl⟩, q2, gt, hKL, if_pos hM]
        rfl
      · exact absurd ⟨y1, by decide⟩ q1
  · -- one round
    refine ⟨fun d2 d3 d4 d5 v' => d2 = b2 ∧ d4 = b4 ∧ v' = v ∧ hld E i d3 ∧ (∀ c, b3.toBitVec.getLsbD c = true → d3.toBitVec.getLsbD c = true) ∧ (clo E b3 → ∀ c, c < 32 → d3.toBitVec.getLsbD c = true → b3.toBitVec.getLsbD c = true) ∧ ∃ t : Nat, t ≤ TN.length ∧ d5.toInt = (t : Int) ∧ ∀ a c : Nat, a < t → b3.toBitVec.getLsbD a = true → E a c → d3.toBitVec.getLsbD c = true, fun _ _ _ d5 _ => (1000 - d5.toInt).toNat, ⟨rfl, rfl, rfl, hh, fun _ q => q, fun _ _ _ q => q, 0, Nat.zero_le _, by decide, fun a c q => absurd q (Nat.not_lt_zero _)⟩, ?_⟩
    rintro d2 d3 d4 d5 v' ⟨rfl, rfl, rfl, k1, k2, k3, t, t1, t2, t3⟩
    unfold v_136_27
    rw [hcn]
    refine ⟨fun y2 x1 hx1 => ?_, fun y2 => ?_⟩
    · have ex1 := hx1 (by omega)
      have et : t = TN.length := by omega
      refine ⟨⟨rfl, rfl, k1, r + 1, by omega, by omega, ?_⟩, by dsimp only; omega⟩
      by_cases hc : clo E b3
      · refine Or.inl (fun a c q e => ?_)
        have ha := (hE24 a c e).1
        exact k2 c (hc a c (k3 hc a (by omega) q) e)
      · have hr : r < cnb b3 24 := by
          rcases r3 with q | q
          · exact absurd q hc
          · exact q
        refine Or.inr ?_
        have : ∃ a c, b3.toBitVec.getLsbD a = true ∧ E a c ∧ ¬ b3.toBitVec.getLsbD c = true := by
          refine Classical.byContradiction (fun hn => hc (fun a c q e => ?_))
          exact Classical.byContradiction (fun q2 => hn ⟨a, c, q, e, q2⟩)
        obtain ⟨a, c, q1, q2, q3⟩ := this
        have hb := hEb a c q2
        have := cnb_lt (x := b3) (y := d3) 24 (fun c _ q => k2 c q) ⟨c, by omega, t3 a c (by omega) q1 q2, q3⟩
        omega
    · have ht : t < TN.length := by omega
      have tt := tb_test (x := d3) t2 (by omega : t < 24)
      have stp : ∀ t1' : Int32, (∀ c : Nat, c < 32 → (t1'.toBitVec.getLsbD c = true → d3.toBitVec.getLsbD t = true ∧ E t c)) → (d3.toBitVec.getLsbD t = true → ∀ c, E t c → t1'.toBitVec.getLsbD c = true) → v_136_44 (fun j => Zt (9 + 8) (wd P j) j) P (fun c2' w' => I c2' w' ∧ (1000 - c2'.toInt).toNat < (1000 - d2.toInt).toNat) (fun b2' b3' b4' v'' => (b2' = d2 ∧ v'' = v' ∧ hld E i b3' ∧ ∃ r : Nat, r ≤ 24 ∧ b4'.toInt = (r : Int) ∧ (clo E b3' ∨ r < cnb b3' 24)) ∧ (24 - b4'.toInt).toNat < (24 - d4.toInt).toNat) (fun d2' d3' d4' d5' v'' => (d2' = d2 ∧ d4' = d4 ∧ v'' = v' ∧ hld E i d3' ∧ (∀ c, b3.toBitVec.getLsbD c = true → d3'.toBitVec.getLsbD c = true) ∧ (clo E b3 → ∀ c, c < 32 → d3'.toBitVec.getLsbD c = true → b3.toBitVec.getLsbD c = true) ∧ ∃ t : Nat, t ≤ TN.length ∧ d5'.toInt = (t : Int) ∧ ∀ a c : Nat, a < t → b3.toBitVec.getLsbD a = true → E a c → d3'.toBitVec.getLsbD c = true) ∧ (1000 - d5'.toInt).toNat < (1000 - d5.toInt).toNat) d2 d3 d4 d5 d3 t1' v' Q := by
        intro t1' h1' h2'
        unfold v_136_44
        intro x1 hx1
        have ex1 := hx1 (by omega)
        have orr : ∀ c, (d3 ||| t1').toBitVec.getLsbD c = true ↔ d3.toBitVec.getLsbD c = true ∨ t1'.toBitVec.getLsbD c = true := fun c => by rw [tb_or, Bool.or_eq_true]
        refine ⟨⟨rfl, rfl, rfl, ⟨fun c hc q => ?_, fun c q => (orr c).mpr (Or.inl (k1.2 c q))⟩, fun c q => (orr c).mpr (Or.inl (k2 c q)), fun hc c hc2 q => ?_, t + 1, by omega, by omega, fun a c q1 q2 q3 => ?_⟩, by omega⟩
        · rcases (orr c).mp q with q | q
          · exact k1.1 c hc q
          · obtain ⟨z1, z2⟩ := h1' c hc q
            exact ⟨(hE24 _ _ z2).2, tcl_t (k1.1 t (by omega) z1).2 (tcl_e z2)⟩
        · rcases (orr c).mp q with q | q
          · exact k3 hc c hc2 q
          · obtain ⟨z1, z2⟩ := h1' c hc2 q
            exact hc t c (k3 hc t (by omega) z1) z2
        · by_cases ea : a = t
          · subst ea
            exact (orr c).mpr (Or.inr (h2' (k2 a q2) c q3))
          · exact (orr c).mpr (Or.inl (t3 a c (by omega) q2 q3))
      refine ⟨fun y3 => stp 0 (fun c hc q => ?_) (fun q => ?_), fun y3 => ?_⟩
      · rw [tb_0] at q
        exact absurd q (by decide)
      · rw [tt.mp y3] at q
        exact absurd q (by decide)
      · have hbt : d3.toBitVec.getLsbD t = true := by
          cases hb : d3.toBitVec.getLsbD t with
          | true => rfl
          | false => exact absurd (tt.mpr hb) y3
        refine Zt.imp (Zt.mo (d := 9) (by omega) (zs_137 (d := 0) (a := t) hP h Cw t2 (by omega))) ?_
        rintro v4 s5 ⟨hs5, x4, rfl, hx4⟩
        rw [← hEd] at hx4
        rw [hs5]
        refine ⟨x4, rfl, stp x4 (fun c hc q => ⟨hbt, (hx4 c hc).mp q⟩) (fun _ c q => (hx4 c (by have := (hE24 _ _ q).2; omega)).mpr q)⟩
end ZCC
