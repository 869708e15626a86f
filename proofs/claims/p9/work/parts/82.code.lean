/-! ===== codeOfWord ===== -/
theorem s_200w {d b n f : Nat} {a1 a2 : Int32} {s : yS} (hb : b < 2) (hn : n ≤ 4000) (h1 : a1.toInt = (f : Int)) (hf : f < 120) (hR : RFa b n s f) : Tot (d + 1) 200 [.ref 213, .int a1, .int a2] s (fun v s' => s' = s ∧ ∃ x : Int32, v = some (.int x) ∧ ((x.toInt = -1 ∧ ∀ k : Nat, (k : Int) < (s.2.1 255 f).toInt → ¬ (s.2.1 217 ((s.2.1 256 f).toInt + 2 * k).toNat).toInt = a2.toInt) ∨ (0 ≤ x.toInt ∧ x.toInt < (s.2.1 255 f).toInt ∧ ∃ k : Nat, (k : Int) < (s.2.1 255 f).toInt ∧ (s.2.1 217 ((s.2.1 256 f).toInt + 2 * k).toNat).toInt = a2.toInt))) := by
  obtain ⟨r1, r2, r3, r4, r5⟩ := hR
  have e1 : a1.toInt.toNat = f := by omega
  refine t_200 ?_
  unfold w_200_0
  rw [e1]
  refine ⟨by omega, by omega, fun x1 hx1 => ?_⟩
  refine ⟨fun b1 b2 b3 b4 t => b1 = a1 ∧ b2 = a2 ∧ t = s ∧ -1 ≤ b4.toInt ∧ b4.toInt < (s.2.1 255 f).toInt ∧ ((b3.toInt = -1 ∧ ∀ k : Nat, b4.toInt < (k : Int) → (k : Int) < (s.2.1 255 f).toInt → ¬ (s.2.1 217 ((s.2.1 256 f).toInt + 2 * k).toNat).toInt = a2.toInt) ∨ (0 ≤ b3.toInt ∧ b3.toInt < (s.2.1 255 f).toInt ∧ ∃ k : Nat, (k : Int) < (s.2.1 255 f).toInt ∧ (s.2.1 217 ((s.2.1 256 f).toInt + 2 * k).toNat).toInt = a2.toInt)), fun _ _ _ b4 _ => (b4.toInt + 1).toNat, ⟨rfl, rfl, rfl, by omega, by omega, Or.inl ⟨by decide, fun k k1 k2 => absurd k2 (by omega)⟩⟩, ?_⟩
  rintro b1 b2 b3 b4 t ⟨z1, z2, z3, h5, h6, h7⟩
  have z1 := z1.symm
  have z2 := z2.symm
  have z3 := z3.symm
  subst z1 z2 z3
  unfold w_200_9 w_200_27
  rw [e1]
  refine ⟨fun q => ⟨rfl, b3, rfl, h7.imp (fun w => ⟨w.1, fun k hk => w.2 k (by clear h7 w; omega) hk⟩) (fun w => w)⟩, fun q => ?_⟩
  have tk := r5 b4.toInt.toNat (by clear h7; omega)
  unfold tkN at tk
  refine ⟨by clear h7; omega, by clear h7; omega, fun x2 hx2 => ⟨by clear h7; omega, fun x3 hx3 => ⟨by clear h7; omega, fun hne => ⟨by clear h7; omega, fun x4 hx4 => ⟨⟨rfl, rfl, rfl, by clear h7; omega, by clear h7; omega, h7.imp (fun w => ⟨w.1, fun k k1 k2 => ?_⟩) (fun w => w)⟩, by show (x4.toInt + 1).toNat < (b4.toInt + 1).toNat; clear h7; omega⟩⟩, fun heq => ⟨by clear h7; omega, fun x4 hx4 => ⟨⟨rfl, rfl, rfl, by clear h7; omega, by clear h7; omega, Or.inr ⟨by clear h7; omega, by clear h7; omega, b4.toInt.toNat, by clear h7; omega, ?_⟩⟩, by show (x4.toInt + 1).toNat < (b4.toInt + 1).toNat; clear h7; omega⟩⟩⟩⟩⟩
  · by_cases hk : (k : Int) = b4.toInt
    · rw [show ((s.2.1 256 f).toInt + 2 * (k : Int)) = x3.toInt by clear h7 w; omega]
      exact hne
    · exact w.2 k (by clear h7; omega) k2
  · rw [show ((s.2.1 256 f).toInt + 2 * ((b4.toInt.toNat : Nat) : Int)) = x3.toInt by clear h7; omega]
    exact heq
/-- the place: which head, type, func -/
def PL (b T F H : Nat) (s : yS) : Prop := ((s.1 77).toInt = -1 ∨ ∃ h, h < H ∧ (s.1 77).toInt = 204 * (b : Int) + (h : Nat)) ∧ ((s.1 76).toInt = -1 ∨ ∃ d, d < T ∧ (s.1 76).toInt = 24 * (b : Int) + (d : Nat)) ∧ ((s.1 78).toInt = -1 ∨ ∃ f, f < F ∧ (s.1 78).toInt = 60 * (b : Int) + (f : Nat))
/-- codes that may be said here -/
def scp (b T F H : Nat) (s : yS) (c : Nat) : Prop := c < T ∨ (∃ h k, h < H ∧ (s.1 77).toInt = 204 * (b : Int) + (h : Nat) ∧ k < nT s 245 (204 * b + h) ∧ c = 2000 + 6 * h + k) ∨ (∃ d k, d < T ∧ (s.1 76).toInt = 24 * (b : Int) + (d : Nat) ∧ k < nT s 236 (24 * b + d) ∧ c = 1000 + 6 * d + k) ∨ (∃ f k, f < F ∧ (s.1 78).toInt = 60 * (b : Int) + (f : Nat) ∧ k < nT s 255 (60 * b + f) ∧ c = 4000 + 6 * f + k)
theorem s_203 {e b n N T F H : Nat} {own : Nat → Nat × Nat} {a1 : Int32} {s : yS} (hS : ST b n own N T F H s) (hPL : PL b T F H s) (h75 : (s.1 75).toInt = (b : Int)) : Tot (e + 2) 203 [.ref 213, .int a1] s (fun v s' => s' = s ∧ ∃ x : Int32, v = some (.int x) ∧ (x.toInt = -1 ∨ ∃ c : Nat, x.toInt = (c : Int) ∧ scp b T F H s c)) := by
  obtain ⟨hb, hn, hT24, hF60, hH, r33, r52, hA⟩ := id hS
  obtain ⟨pl1, pl2, pl3⟩ := hPL
  have e75 : (s.1 75).toInt.toNat = b := by omega
  have go113 : wl_203_113 (Tot (e + 1)) a1 0 s (fun v s' => s' = s ∧ ∃ x : Int32, v = some (.int x) ∧ (x.toInt = -1 ∨ ∃ c : Nat, x.toInt = (c : Int) ∧ scp b T F H s c)) := by
    refine ⟨fun z1 z2 t => z1 = a1 ∧ t = s ∧ 0 ≤ z2.toInt ∧ z2.toInt ≤ T, fun _ z2 _ => (100 - z2.toInt).toNat, ⟨rfl, rfl, by decide, by rw [show (0 : Int32).toInt = 0 by decide]; omega⟩, ?_⟩
    rintro z1 z2 t ⟨y1, y2, y3, y4⟩
    have y1 := y1.symm
    have y2 := y2.symm
    subst y1 y2
    unfold w_203_113
    rw [e75, r33]
    clear pl1 pl2 pl3
    refine ⟨by omega, fun _ => ⟨rfl, -1, rfl, Or.inl (by decide)⟩, fun q => ⟨by omega, fun x1 hx1 => ⟨by omega, fun x2 hx2 => ?_⟩⟩⟩
    have e2 : x2.toInt.toNat = 24 * b + z2.toInt.toNat := by omega
    have tk := tk_in hb hn (hA.1 z2.toInt.toNat (by omega)).1
    rw [e2]
    exact ⟨by omega, ⟨tk.1, tk.2.1⟩, fun _ => ⟨by omega, fun x3 hx3 => ⟨⟨rfl, rfl, by omega, by omega⟩, by show (100 - x3.toInt).toNat < (100 - z2.toInt).toNat; omega⟩⟩, fun _ => ⟨rfl, z2, rfl, Or.inr ⟨z2.toInt.toNat, by omega, Or.inl (by omega)⟩⟩⟩
  have go84 : ∀ a2, w_203_84 (Tot (e + 1)) a1 a2 s (fun v s' => s' = s ∧ ∃ x : Int32, v = some (.int x) ∧ (x.toInt = -1 ∨ ∃ c : Nat, x.toInt = (c : Int) ∧ scp b T F H s c)) := by
    intro a2
    unfold w_203_84 w_203_111
    refine ⟨fun _ => go113, fun q => ?_⟩
    obtain ⟨f, hf, hf2⟩ := pl3.resolve_left (fun w => by rw [w] at q; exact q (by decide))
    clear pl1 pl2 pl3
    have hRF := (hA.2.2.1 f hf).1
    refine Tot.imp (Tot.mono (by omega) (s_200w (d := 0) (f := 60 * b + f) hb hn (by omega) (by omega) hRF)) ?_
    rintro v s1 ⟨es, x3, rfl, h3⟩
    have es := es.symm
    subst es
    refine ⟨x3, rfl, fun _ => go113, fun q3 => ?_⟩
    obtain ⟨-, -, k, k1, k2⟩ := h3.resolve_left (fun w => by have := w.1; omega)
    clear h3
    refine ⟨by omega, fun x4 hx4 => ⟨by omega, fun x5 hx5 => ⟨by omega, fun x6 hx6 => ⟨by omega, fun x7 hx7 => ?_⟩⟩⟩⟩
    refine Tot.imp (Tot.mono (by omega) (s_200w (d := 0) (f := 60 * b + f) hb hn (by omega) (by omega) hRF)) ?_
    rintro v s1 ⟨es, x10, rfl, h10⟩
    have es := es.symm
    subst es
    have h10 := h10.resolve_left (fun w => w.2 k k1 k2)
    obtain ⟨m1, m2, -⟩ := h10
    have m6 := hRF.2.2.2.1
    refine ⟨x10, rfl, by omega, fun x11 hx11 => ⟨rfl, x11, rfl, Or.inr ⟨4000 + 6 * f + x10.toInt.toNat, by omega, Or.inr (Or.inr (Or.inr ⟨f, x10.toInt.toNat, hf, hf2, ?_, rfl⟩))⟩⟩⟩
    unfold nT
    omega
  have go44 : wl_203_44 (Tot (e + 1)) a1 0 s (fun v s' => s' = s ∧ ∃ x : Int32, v = some (.int x) ∧ (x.toInt = -1 ∨ ∃ c : Nat, x.toInt = (c : Int) ∧ scp b T F H s c)) := by
    refine ⟨fun z1 z2 t => z1 = a1 ∧ t = s ∧ 0 ≤ z2.toInt ∧ z2.toInt ≤ 6, fun _ z2 _ => (100 - z2.toInt).toNat, ⟨rfl, rfl, by decide, by decide⟩, ?_⟩
    rintro z1 z2 t ⟨y1, y2, y3, y4⟩
    have y1 := y1.symm
    have y2 := y2.symm
    subst y1 y2
    unfold w_203_44
    refine ⟨fun _ => go84 z2, fun q => ?_⟩
    obtain ⟨d, hd, hd2⟩ := pl2.resolve_left (fun w => by rw [w] at q; exact q (by decide))
    clear pl1 pl2 pl3
    obtain ⟨d1, d2, d3, d4, d5, d6, -⟩ := hA.1 d hd
    have ed : (s.1 76).toInt.toNat = 24 * b + d := by omega
    rw [ed]
    refine ⟨by omega, fun _ => go84 z2, fun q2 => ⟨by omega, fun x1 hx1 => ⟨by omega, fun x2 hx2 => ?_⟩⟩⟩
    have e2 : x2.toInt.toNat = 6 * (24 * b + d) + z2.toInt.toNat := by omega
    have tk := tk_in hb hn (d6 z2.toInt.toNat (by omega)).1
    rw [e2]
    refine ⟨by omega, ⟨tk.1, tk.2.1⟩, fun _ => ⟨by omega, fun x3 hx3 => ⟨⟨rfl, rfl, by omega, by omega⟩, by show (100 - x3.toInt).toNat < (100 - z2.toInt).toNat; omega⟩⟩, fun _ => ⟨by omega, fun x4 hx4 => ⟨by omega, fun x5 hx5 => ⟨by omega, fun x6 hx6 => ⟨by omega, fun x7 hx7 => ⟨by omega, fun x8 hx8 => ⟨rfl, x8, rfl, Or.inr ⟨1000 + 6 * d + z2.toInt.toNat, by omega, Or.inr (Or.inr (Or.inl ⟨d, z2.toInt.toNat, hd, hd2, ?_, rfl⟩))⟩⟩⟩⟩⟩⟩⟩⟩
    unfold nT
    omega
  refine t_203 ?_
  refine ⟨fun z1 z2 t => z1 = a1 ∧ t = s ∧ 0 ≤ z2.toInt ∧ z2.toInt ≤ 6, fun _ z2 _ => (100 - z2.toInt).toNat, ⟨rfl, rfl, by decide, by decide⟩, ?_⟩
  rintro z1 z2 t ⟨y1, y2, y3, y4⟩
  have y1 := y1.symm
  have y2 := y2.symm
  subst y1 y2
  unfold w_203_2 w_203_42
  refine ⟨fun _ => go44, fun q => ?_⟩
  obtain ⟨h, hh, hh2⟩ := pl1.resolve_left (fun w => by rw [w] at q; exact q (by decide))
  clear pl1 pl2 pl3
  obtain ⟨⟨k1, k2, k3, k4, -⟩, -⟩ := hA.2.1 h hh
  have eh : (s.1 77).toInt.toNat = 204 * b + h := by omega
  rw [eh]
  refine ⟨by omega, fun _ => go44, fun q2 => ⟨by omega, fun x1 hx1 => ⟨by omega, fun x2 hx2 => ?_⟩⟩⟩
  have e2 : x2.toInt.toNat = 6 * (204 * b + h) + z2.toInt.toNat := by omega
  have tk := tk_in hb hn (k4 z2.toInt.toNat (by omega)).1
  rw [e2]
  refine ⟨by omega, ⟨tk.1, tk.2.1⟩, fun _ => ⟨by omega, fun x3 hx3 => ⟨⟨rfl, rfl, by omega, by omega⟩, by show (100 - x3.toInt).toNat < (100 - z2.toInt).toNat; omega⟩⟩, fun _ => ⟨by omega, fun x4 hx4 => ⟨by omega, fun x5 hx5 => ⟨by omega, fun x6 hx6 => ⟨by omega, fun x7 hx7 => ⟨by omega, fun x8 hx8 => ⟨rfl, x8, rfl, Or.inr ⟨2000 + 6 * h + z2.toInt.toNat, by omega, Or.inr (Or.inl ⟨h, z2.toInt.toNat, hh, hh2, ?_, rfl⟩)⟩⟩⟩⟩⟩⟩⟩⟩
  unfold nT
  omega
