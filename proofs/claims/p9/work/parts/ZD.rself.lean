/-! ===== the reference: selves ===== -/
/-- i holds j -/
def mxr (u : yS) (i j : Nat) : Prop := ¬ (u.2.1 269 (24 * i + j)).toInt = 0
/-- only the row of what holds what, and the fault -/
def SVr (s s' : yS) : Prop := (∀ q, ¬ q = 269 → s'.2.1 q = s.2.1 q) ∧ s'.2.2 = s.2.2 ∧ ∀ k, ¬ k = 8 → s'.1 k = s.1 k
def SVq (F : Int) (s : yS) (v : Option Value) (s' : yS) : Prop := v = none ∧ SVr s s' ∧ (s'.1 8).toInt = F
section ZDR
variable {K L W ar kd : Int → Int} {n lo hi B b A x y : Int} {TN Ls : List Int} {d : Nat} {s u : yS} {E : Nat → Nat → Prop} {i j a c : Nat} {v : Int32}
theorem SVr_rf : SVr s s := ⟨fun _ _ => rfl, rfl, fun _ _ => rfl⟩
theorem SVr_sa {m : Nat} (h : SVr s u) : SVr s (sa u 269 m v) := ⟨fun q hq => by
  funext z
  rw [sa_21, if_neg (fun e => hq e.1), h.1 q hq], h.2.1, h.2.2⟩
theorem mx_sa (hj : j < 24) (hc : c < 24) : mxr (sa u 269 (24 * i + j) v) a c ↔ if a = i ∧ c = j then ¬ v.toInt = 0 else mxr u a c := by
  unfold mxr
  rw [sa_21]
  by_cases e : a = i ∧ c = j
  · rw [if_pos ⟨rfl, by rw [e.1, e.2]⟩, if_pos e]
  · rw [if_neg (fun q => e (by omega)), if_neg e]
/-- the last loop -/
theorem sv_138 {b1 : Int32} (hb : (s.1 30).toInt = b) (hb0 : 0 ≤ b) (h1 : b1.toInt = 24 * b) (h233 : (s.2.1 233 b.toNat).toInt = (TN.length : Int)) (hN : ∀ (i : Nat) (t : Int), TN[i]? = some t → (s.2.1 234 (24 * b + (i : Int)).toNat).toInt = B + t ∧ (s.2.1 216 (B + t).toNat).toInt = L t) (hT : TN.length ≤ 24) (hF : SVr s u) (h8 : (u.1 8).toInt = 0) (hm : ∀ i, i < 24 → (mxr u i i ↔ tcl E i i)) : ubl_215_138 (Par d) b1 0 u (SVq (ffs (L5 E L TN)) s) := by
  refine ⟨fun d1 d2 w => d1 = b1 ∧ SVr s w ∧ w.2.1 269 = u.2.1 269 ∧ ∃ k : Nat, k ≤ TN.length ∧ d2.toInt = (k : Int) ∧ (w.1 8).toInt = ffs ((L5 E L TN).take k), ⟨rfl, hF, rfl, 0, Nat.zero_le _, by decide, by rw [h8, List.take_zero]; rfl⟩, ?_⟩
  rintro d1 d2 w ⟨rfl, f1, f2, k, k1, k2, k3⟩
  unfold ub_215_138
  rw [f1.2.2 30 (by decide), hb, f1.1 233 (by decide), h233, f2]
  intro _
  refine ⟨fun y => ⟨rfl, f1, ?_⟩, fun y _ x1 hx1 _ => ?_⟩
  · rw [k3, List.take_of_length_le (by rw [L5_len]; omega)]
  · have hk : k < TN.length := by omega
    obtain ⟨t, ht⟩ : ∃ t, TN[k]? = some t := ⟨_, List.getElem?_eq_getElem hk⟩
    have hL := L5_at (E := E) (L := L) ht
    have e1 : x1.toInt.toNat = 24 * k + k := by omega
    have hmk := hm k (by omega)
    unfold mxr at hmk
    rw [e1]
    refine ⟨fun z _ x2 hx2 => ⟨rfl, f1, f2, k + 1, by omega, by omega, ?_⟩, fun z _ x2 hx2 _ => ?_⟩
    · have hM : ¬ M5 E k = true := fun q => hmk.mpr (M5_i.mp q) z
      rw [take_s hL, if_neg hM, ffs_s, k3]
      split
      · assumption
      · rfl
    · have hM : M5 E k = true := M5_i.mpr (hmk.mp z)
      obtain ⟨n1, n2⟩ := hN k t ht
      rw [f1.1 234 (by decide), show x2.toInt = 24 * b + (k : Int) by omega]
      refine Par.imp (x_163w (L := L) (φ := (w.1 8).toInt) n1 rfl (by rw [f1.1 216 (by decide)]; exact n2)) ?_
      rintro v4 s3 ⟨rfl, r1, r2⟩
      refine ⟨rfl, ?_⟩
      unfold ub_215_161
      intro _ x3 hx3
      refine ⟨rfl, ⟨fun q hq => by rw [r1.1]; exact f1.1 q hq, by rw [r1.1]; exact f1.2.1, fun q hq => by rw [r1.2 q hq]; exact f1.2.2 q hq⟩, by rw [r1.1]; exact f2, k + 1, by omega, by omega, ?_⟩
      rw [r2, take_s hL, if_pos hM, ffs_s, k3]
      rfl
/-- ways: one by one -/
theorem sv_79 {b1 : Int32} {Q : Option Value → yS → Prop} (hE : ∀ a c, E a c → a < 24 ∧ c < 24) (hF : SVr s u) (h8 : (u.1 8).toInt = 0) (hm : ∀ i j, i < 24 → j < 24 → (mxr u i j ↔ E i j)) (hQ : ∀ w : yS, SVr s w → (w.1 8).toInt = 0 → (∀ i, i < 24 → (mxr w i i ↔ tcl E i i)) → ubl_215_138 (Par d) b1 0 w Q) : ubl_215_79 (Par d) b1 0 u Q := by
  refine ⟨fun d1 d2 w => d1 = b1 ∧ SVr s w ∧ (w.1 8).toInt = 0 ∧ ∃ k : Nat, k ≤ 24 ∧ d2.toInt = (k : Int) ∧ (∀ i j, i < 24 → j < 24 → mxr w i j → tcl E i j) ∧ ∀ i j, i < 24 → j < 24 → fwP E k i j → mxr w i j, ⟨rfl, hF, h8, 0, by decide, by decide, fun i j hi hj q => tcl_e ((hm i j hi hj).mp q), fun i j hi hj q => (hm i j hi hj).mpr q⟩, ?_⟩
  rintro d1 d2 w ⟨rfl, f1, f2, k, k1, k2, k3, k4⟩
  unfold ub_215_79
  refine ⟨fun y => hQ w f1 f2 (fun i hi => ⟨fun q => k3 i i hi hi q, fun q => ?_⟩), fun y => ?_⟩
  · have ek : k = 24 := by omega
    subst ek
    exact k4 i i hi hi (fwP_c hE q)
  have hk : k < 24 := by omega
  refine ⟨fun e1 e2 e3 w' => e1 = d1 ∧ e2 = d2 ∧ SVr s w' ∧ (w'.1 8).toInt = 0 ∧ ∃ i : Nat, i ≤ 24 ∧ e3.toInt = (i : Int) ∧ (∀ a c, a < 24 → c < 24 → mxr w' a c → tcl E a c) ∧ (∀ a c, a < 24 → c < 24 → fwP E k a c → mxr w' a c) ∧ ∀ a c, a < 24 → c < 24 → a < i → fwP E (k + 1) a c → mxr w' a c, ⟨rfl, rfl, f1, f2, 0, by decide, by decide, k3, k4, fun a c _ _ q => absurd q (Nat.not_lt_zero _)⟩, ?_⟩
  rintro e1 e2 e3 w' ⟨rfl, rfl, g1, g2, i, i1, i2, i3, i4, i5⟩
  unfold ub_215_84
  refine ⟨fun y1 _ x1 hx1 => ⟨rfl, g1, g2, k + 1, by omega, by omega, i3, fun a c ha hc q => i5 a c ha hc (by omega) q⟩, fun y1 => ?_⟩
  have hi : i < 24 := by omega
  refine ⟨fun h1 h2 h3 h4 w2 => h1 = e1 ∧ h2 = e2 ∧ h3 = e3 ∧ SVr s w2 ∧ (w2.1 8).toInt = 0 ∧ ∃ j : Nat, j ≤ 24 ∧ h4.toInt = (j : Int) ∧ (∀ a c, a < 24 → c < 24 → mxr w2 a c → tcl E a c) ∧ (∀ a c, a < 24 → c < 24 → fwP E k a c → mxr w2 a c) ∧ ∀ a c, a < 24 → c < 24 → (a < i ∨ (a = i ∧ c < j)) → fwP E (k + 1) a c → mxr w2 a c, ⟨rfl, rfl, rfl, g1, g2, 0, by decide, by decide, i3, i4, fun a c ha hc q => ?_⟩, ?_⟩
  · rcases q with q | q
    · exact i5 a c ha hc q
    · exact absurd q.2 (Nat.not_lt_zero _)
  rintro h1 h2 h3 h4 w2 ⟨rfl, rfl, rfl, m1, m2, j, j1, j2, j3, j4, j5⟩
  unfold ub_215_89
  refine ⟨fun y2 _ x1 hx1 => ⟨rfl, rfl, m1, m2, i + 1, by omega, by omega, j3, j4, fun a c ha hc q1 q2 => j5 a c ha hc (by omega) q2⟩, fun y2 _ x2 hx2 _ x3 hx3 _ x4 hx4 _ x5 hx5 _ => ?_⟩
  have hj : j < 24 := by omega
  have e3' : x3.toInt.toNat = 24 * i + j := by omega
  have e5' : x5.toInt.toNat = 24 * i + j := by omega
  have store : ∀ t2 : Int32, (¬ t2.toInt = 0 → tcl E i j) → (t2.toInt = 0 → ¬ mxr w2 i j ∧ ¬ fwP E (k + 1) i j) → ub_215_129 (Par d) (fun d1' d2' w => d1' = h1 ∧ SVr s w ∧ (w.1 8).toInt = 0 ∧ ∃ k : Nat, k ≤ 24 ∧ d2'.toInt = (k : Int) ∧ (∀ i j, i < 24 → j < 24 → mxr w i j → tcl E i j) ∧ ∀ i j, i < 24 → j < 24 → fwP E k i j → mxr w i j) (fun e1' e2' e3' w' => e1' = h1 ∧ e2' = h2 ∧ SVr s w' ∧ (w'.1 8).toInt = 0 ∧ ∃ i : Nat, i ≤ 24 ∧ e3'.toInt = (i : Int) ∧ (∀ a c, a < 24 → c < 24 → mxr w' a c → tcl E a c) ∧ (∀ a c, a < 24 → c < 24 → fwP E k a c → mxr w' a c) ∧ ∀ a c, a < 24 → c < 24 → a < i → fwP E (k + 1) a c → mxr w' a c) (fun h1' h2' h3' h4' w2 => h1' = h1 ∧ h2' = h2 ∧ h3' = h3 ∧ SVr s w2 ∧ (w2.1 8).toInt = 0 ∧ ∃ j : Nat, j ≤ 24 ∧ h4'.toInt = (j : Int) ∧ (∀ a c, a < 24 → c < 24 → mxr w2 a c → tcl E a c) ∧ (∀ a c, a < 24 → c < 24 → fwP E k a c → mxr w2 a c) ∧ ∀ a c, a < 24 → c < 24 → (a < i ∨ (a = i ∧ c < j)) → fwP E (k + 1) a c → mxr w2 a c) h1 h2 h3 h4 x3 t2 w2 Q := by
    intro t2 q1 q2
    unfold ub_215_129
    intro _ s1 hs1 _ x6 hx6
    rw [e3'] at hs1
    have mx : ∀ a c, c < 24 → (mxr s1 a c ↔ if a = i ∧ c = j then ¬ t2.toInt = 0 else mxr w2 a c) := fun a c hc => by
      rw [hs1]
      exact mx_sa hj hc
    refine ⟨rfl, rfl, rfl, by rw [hs1]; exact SVr_sa m1, by rw [hs1, sa_1r]; exact m2, j + 1, by omega, by omega, fun a c ha hc q => ?_, fun a c ha hc q => ?_, fun a c ha hc q3 q => ?_⟩
    · rw [mx a c hc] at q
      by_cases e : a = i ∧ c = j
      · rw [if_pos e] at q
        rw [e.1, e.2]
        exact q1 q
      · rw [if_neg e] at q
        exact j3 a c ha hc q
    · rw [mx a c hc]
      by_cases e : a = i ∧ c = j
      · rw [if_pos e]
        intro z
        refine (q2 z).2 (Or.inl ?_)
        rw [← e.1, ← e.2]
        exact q
      · rw [if_neg e]
        exact j4 a c ha hc q
    · rw [mx a c hc]
      by_cases e : a = i ∧ c = j
      · rw [if_pos e]
        intro z
        refine (q2 z).2 ?_
        rw [← e.1, ← e.2]
        exact q
      · rw [if_neg e]
        exact j5 a c ha hc (by omega) q
  rw [e5']
  refine ⟨fun z => ?_, fun z _ x6 hx6 _ x7 hx7 _ => ?_⟩
  · unfold ub_215_126
    exact store 1 (fun _ => j3 i j hi hj z) (fun q => absurd q (by decide))
  · have e7 : x7.toInt.toNat = 24 * i + k := by omega
    rw [e7]
    refine ⟨fun z1 => ?_, fun z1 _ x8 hx8 _ x9 hx9 _ => ?_⟩
    · unfold ub_215_128
      refine store 0 (fun q => absurd (by decide) q) (fun _ => ⟨fun q => q z, fun q => ?_⟩)
      rcases q with q | ⟨q, -⟩
      · exact j4 i j hi hj q z
      · exact j4 i k hi hk q z1
    · have e9 : x9.toInt.toNat = 24 * k + j := by omega
      rw [e9]
      refine ⟨fun z2 => ?_, fun z2 => ?_⟩
      · unfold ub_215_128
        refine store 0 (fun q => absurd (by decide) q) (fun _ => ⟨fun q => q z, fun q => ?_⟩)
        rcases q with q | ⟨-, q⟩
        · exact j4 i j hi hj q z
        · exact j4 k j hk hj q z2
      · unfold ub_215_126
        exact store 1 (fun _ => tcl_t (j3 i k hi hk z1) (j3 k j hk hj z2)) (fun q => absurd q (by decide))
end ZDR
