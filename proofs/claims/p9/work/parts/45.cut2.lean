/-! ===== a word's end in cutAll ===== -/
theorem cut_106 {d b i W : Nat} {s0 s : yS} {a1 a2 a3 a4 a9 : Int32} {a5 a7 : Int64} {R : Int32 → Int32 → yS → Prop} {P : Option Value → yS → Prop} (hb : b < 3) (e9 : (s0.1 9).toInt = (b : Int)) (hsz : (s0.1 3).toInt ≤ 4000) (hs1 : s.1 = s0.1) (hF : CF b s0 s) (ha1 : a1.toInt = 4002 * (b : Int) + i) (hi : (i : Int) ≤ a4.toInt) (h4 : 0 ≤ a4.toInt) (h42 : a4.toInt < a2.toInt) (h2 : a2.toInt ≤ (s0.1 3).toInt) (hW : (s.2.1 220 b).toInt = (W : Int)) (hC : CT b i W s) (hK : WKp b W s.2.2) (hg : 0 < a5.toInt ∧ a5.toInt < 18014398509481984 ∧ 0 ≤ a7.toInt ∧ a7.toInt < 18014398509481984) (hp : (s.2.1 216 (4002 * b + i)).toInt = a4.toInt) (h2W : 2 * (W : Int) ≤ 78 + a4.toInt) (hend : a2.toInt = (s0.1 3).toInt ∨ isLt (s0.2.1 214 a2.toInt.toNat).toInt = false) (hR : ∀ (x1 : Int32) (s' : yS), CI b s0 x1 a2 s' → R x1 a2 s') : w_162_106 (Tot (d + 1)) R a1 a2 a3 a4 a5 a7 a9 s P := by
  have en : a1.toInt.toNat = 4002 * b + i := by omega
  have hin : 4002 * b ≤ 4002 * b + i ∧ 4002 * b + i < 4002 * b + 4002 := by omega
  have key : ∀ t2 : Int32, w_162_117 (Tot (d + 1)) R a1 a2 a3 a4 a5 a7 a9 a1 t2 s P := by
    intro t2
    unfold w_162_117 w_162_133 w_162_151
    rw [en]
    refine ⟨by omega, ?_⟩
    rintro s1 rfl
    have F1 : CF b s0 (sa s 215 (4002 * b + i) t2) := CF_sa hF (by decide) hin
    have r1 : ∀ p, p ≠ 215 → (sa s 215 (4002 * b + i) t2).2.1 p = s.2.1 p := by
      intro p hp
      funext j
      rw [sa_2, if_neg (fun e => hp e.1)]
    have q15 : (sa s 215 (4002 * b + i) t2).2.1 215 (4002 * b + i) = t2 := by rw [sa_2, if_pos ⟨rfl, rfl⟩]
    rw [q15]
    refine ⟨by omega, fun hn => ⟨by omega, ?_⟩, fun h1 => ?_⟩
    · rintro s2 rfl
      refine ⟨by omega, fun x1 hx1 => hR x1 _ ⟨hs1, CF_sa F1 (by decide) hin, by omega, h2, i + 1, W, by omega, by omega, ?_, ⟨?_, hK⟩, Or.inr ⟨by omega, hend⟩⟩⟩
      · rw [sa_2, if_neg (fun e => by omega), r1 220 (by decide)]
        exact hW
      · refine CT_more hC (Nat.le_refl _) (fun p _ j hj => ?_) ?_ (fun q => ?_)
        · rw [sa_2, if_neg (fun e => hj e.2), sa_2, if_neg (fun e => hj e.2)]
        · rw [sa_2, if_neg (fun e => by omega), r1 216 (by decide), hp]
          omega
        · rw [sa_2, if_neg (fun e => by omega), q15] at q
          exact absurd q hn
    · refine Tot.imp (s_160 (W := W) hb (by show (s.1 9).toInt = _; rw [hs1]; exact e9) (by rw [r1 220 (by decide)]; exact hW) (by omega)) ?_
      rintro v s2 ⟨r, rfl, g1, g2, g3, g4, g5, g6, g7, g8⟩
      refine ⟨r, rfl, by omega, ?_⟩
      rintro s3 rfl
      obtain ⟨W', hW', hWW⟩ : ∃ W' : Nat, (s2.2.1 220 b).toInt = (W' : Int) ∧ (W' = W ∨ W' = W + 1) := by
        rcases g6 with g6 | g6
        · exact ⟨W, g6, Or.inl rfl⟩
        · exact ⟨W + 1, by rw [g6]; rfl, Or.inr rfl⟩
      have F2 : CF b s0 s2 := by
        refine ⟨fun p hp => ?_, fun p j hp hj => ?_, fun q hq => ?_, fun q j hj => (g7 q j hj).trans (F1.2.2.2 q j hj)⟩
        · rw [g2 p (fun e => hp (by rw [e]; decide))]
          exact F1.1 p hp
        · rw [g2 p (fun e => by rw [e] at hp; revert hp; decide)]
          exact F1.2.1 p j hp hj
        · rw [g3 q hq]
          exact F1.2.2.1 q hq
      refine ⟨by omega, fun x1 hx1 => hR x1 _ ⟨g1.trans hs1, CF_sa F2 (by decide) hin, by omega, h2, i + 1, W', by omega, by omega, ?_, ⟨?_, g8 hg hK W' hW'⟩, Or.inr ⟨by omega, hend⟩⟩⟩
      · rw [sa_2, if_neg (fun e => by omega)]
        exact hW'
      · refine CT_more (s := s) hC (by omega) (fun p hp2 j hj => ?_) ?_ (fun _ => ?_)
        · have h220 : p ≠ 220 := fun e => by
            rw [e] at hp2
            revert hp2
            decide
          rw [sa_2, if_neg (fun e => hj e.2), g2 p h220, sa_2, if_neg (fun e => hj e.2)]
        · rw [sa_2, if_neg (fun e => by omega), g2 216 (by decide), r1 216 (by decide), hp]
          omega
        · rw [sa_2, if_pos ⟨rfl, rfl⟩]
          omega
  unfold w_162_106
  exact ⟨by omega, fun x1 hx1 => ⟨fun _ => key 1, fun _ => key 4⟩⟩
