/-! ===== the reference's cells as numbers and rows ===== -/
/-- int fields, rows of ints (by their places), rows of longs -/
abbrev yS : Type := (Nat → Int32) × (Nat → Nat → Int32) × (Nat → Nat → Int64)
def yf : List Value := [.int 0, .ref 214, .int 0, .int 0, .ref 215, .ref 216, .ref 217, .int 0, .int 0, .int 0, .ref 218, .ref 219, .ref 220, .ref 1000000, .ref 221, .ref 222, .ref 223, .ref 224, .ref 225, .ref 226, .ref 227, .ref 228, .ref 229, .ref 230, .ref 231, .ref 232, .int 0, .int 0, .int 0, .int 0, .int 0, .ref 233, .ref 234, .ref 235, .ref 236, .ref 237, .ref 238, .ref 239, .ref 240, .ref 241, .ref 242, .ref 243, .int 0, .ref 244, .ref 245, .ref 246, .ref 247, .ref 248, .ref 249, .ref 250, .ref 251, .ref 252, .ref 253, .ref 254, .ref 255, .ref 256, .ref 257, .ref 258, .ref 259, .ref 260, .ref 261, .ref 262, .ref 263, .ref 264, .int 0, .int 0, .ref 265, .ref 266, .ref 267, .ref 268, .int 0, .int 0, .int 0, .int 0, .int 0, .int 0, .int 0, .int 0, .int 0, .ref 269, .int 0, .int 0, .ref 270, .ref 271, .ref 272, .int 0, .int 0, .int 0, .ref 273, .ref 274, .int 0, .int (-1), .int (-1), .int 0, .int 0, .int 0, .int 0, .int 0, .int 0, .ref 275, .ref 276, .ref 277, .int 0, .int 0, .ref 278, .int 0, .int 0, .int 0, .int 0, .int (-1), .int 0, .int 0, .int 0, .ref 279, .ref 280, .ref 281, .ref 282, .ref 283, .int 0, .ref 284, .int 0, .ref 285, .ref 286, .ref 287, .int 0]
def yrt : List (Nat × Nat) := [(0, 4000), (0, 12006), (0, 12006), (0, 12006), (1, 6300), (1, 6300), (0, 3), (0, 12006), (0, 12006), (0, 12006), (0, 12006), (0, 12006), (0, 12006), (0, 12006), (0, 12006), (0, 12006), (0, 12006), (0, 12006), (0, 12006), (0, 2), (0, 48), (2, 48), (0, 48), (0, 288), (0, 288), (0, 48), (0, 288), (0, 288), (0, 48), (0, 48), (0, 408), (0, 408), (0, 2448), (0, 2448), (0, 408), (0, 2448), (0, 2448), (0, 408), (0, 2), (0, 120), (0, 120), (0, 120), (0, 120), (0, 120), (0, 120), (0, 2), (2, 2), (0, 120), (0, 168), (0, 2), (0, 200000), (0, 600), (0, 600), (0, 3600), (0, 3600), (2, 576), (0, 120000), (0, 12006), (0, 12006), (0, 120), (0, 2), (0, 5100), (0, 5100), (0, 30600), (0, 4000), (0, 160), (0, 160), (0, 160), (0, 160), (0, 160), (0, 2000), (0, 60), (0, 1100), (0, 1100)]
def ycell (s : yS) (p : Nat) (q : Nat × Nat) : xE := match q.1 with
  | 1 => .inl (1, q.2, .inr (.inl (s.2.2 p)))
  | t => .inl (t, q.2, .inl (s.2.1 p))
def yfv (s : yS) (k : Nat) (v : Value) : Value := match v with
  | .int _ => .int (s.1 k)
  | v => v
def yfl (s : yS) : List Value := yf.mapIdx (yfv s)
def yR (s : yS) : xH := .inr (12, yfl s) :: yrt.mapIdx (fun j q => ycell s (214 + j) q)
/-- the cells: the class's, the reference's, what the class made later -/
def yh (pre post : xH) (s : yS) : xH := pre ++ (yR s ++ post)
def ytab (p : Nat) : Option (Nat × Nat) := match Nat.ble 214 p with
  | true => yrt[p - 214]?
  | false => none
def sf (s : yS) (k : Nat) (v : Int32) : yS := (upd s.1 k v, s.2)
def sa (s : yS) (p i : Nat) (v : Int32) : yS := (s.1, fun q => if q = p then upd (s.2.1 p) i v else s.2.1 q, s.2.2)
def sl (s : yS) (p i : Nat) (v : Int64) : yS := (s.1, s.2.1, fun q => if q = p then vp_updL (s.2.2 p) i v else s.2.2 q)
theorem yR_len (s : yS) : (yR s).length = 75 := by
  unfold yR
  rw [List.length_cons, List.length_mapIdx]
  rfl
theorem yh_get {pre post : xH} {s : yS} (h : pre.length = 213) (m : Nat) : (yh pre post s)[m]? = if m < 213 then pre[m]? else if m < 288 then (yR s)[m - 213]? else post[m - 288]? := by
  unfold yh
  by_cases h1 : m < 213
  · rw [if_pos h1, List.getElem?_append_left (by omega)]
  · rw [if_neg h1, List.getElem?_append_right (by omega), h]
    by_cases h2 : m < 288
    · rw [if_pos h2, List.getElem?_append_left (by rw [yR_len]; omega)]
    · rw [if_neg h2, List.getElem?_append_right (by rw [yR_len]; omega), yR_len]
      rw [show m - 213 - 75 = m - 288 by omega]
theorem ytab_spec {p : Nat} {q : Nat × Nat} (h : ytab p = some q) : 214 ≤ p ∧ p < 288 ∧ yrt[p - 214]? = some q := by
  unfold ytab at h
  cases hb : Nat.ble 214 p with
  | false => rw [hb] at h; cases h
  | true =>
    rw [hb] at h
    have h1 := Nat.le_of_ble_eq_true hb
    have h2 : p - 214 < 74 := (List.getElem?_eq_some_iff.mp h).1
    exact ⟨h1, by omega, h⟩
theorem yR_at {s : yS} {m : Nat} (h : 214 ≤ m) : (yR s)[m - 213]? = (yrt[m - 214]?).map (fun q => ycell s m q) := by
  rw [show m - 213 = (m - 214) + 1 by omega]
  unfold yR
  rw [List.getElem?_cons_succ, List.getElem?_mapIdx]
  have e : 214 + (m - 214) = m := by omega
  have e2 : (fun q => ycell s (214 + (m - 214)) q) = (fun q => ycell s m q) := by rw [e]
  show Option.map (fun q => ycell s (214 + (m - 214)) q) _ = _
  rw [e2]
theorem yR_o {s s' : yS} (h : s.1 = s'.1) : (yR s)[0]? = (yR s')[0]? := by
  have e : yfv s = yfv s' := by
    funext k v
    unfold yfv
    rw [h]
  unfold yR yfl
  rw [List.getElem?_cons_zero, List.getElem?_cons_zero, e]
theorem yh_o {pre post : xH} {s : yS} (h : pre.length = 213) : (yh pre post s)[213]? = some (.inr (12, yfl s)) := by
  rw [yh_get h]
  rfl
theorem yh_a {pre post : xH} {s : yS} {p : Nat} {q : Nat × Nat} (h : pre.length = 213) (hq : ytab p = some q) : (yh pre post s)[p]? = some (ycell s p q) := by
  obtain ⟨h1, h2, h3⟩ := ytab_spec hq
  rw [yh_get h, if_neg (by omega), if_pos h2, yR_at h1, h3]
  rfl
theorem yh_len {pre post : xH} {s : yS} (h : pre.length = 213) : (yh pre post s).length = 288 + post.length := by
  unfold yh
  rw [List.length_append, List.length_append, yR_len, h]
  omega
theorem yfl_set {s : yS} {k : Nat} {z v : Int32} (hk : yf[k]? = some (.int z)) : (yfl s).set k (.int v) = yfl (sf s k v) := by
  apply List.ext_getElem?
  intro m
  unfold yfl
  rw [List.getElem?_set, List.getElem?_mapIdx, List.getElem?_mapIdx, List.length_mapIdx]
  by_cases hm : k = m
  · subst hm
    rw [if_pos rfl, if_pos (List.getElem?_eq_some_iff.mp hk).1, hk]
    simp [yfv, sf, upd]
  · rw [if_neg hm]
    cases yf[m]? with
    | none => rfl
    | some w =>
      cases w with
      | int x => simp [yfv, sf, upd, Ne.symm hm]
      | _ => rfl
theorem yh_sf {pre post : xH} {s : yS} {k : Nat} {z v : Int32} (h : pre.length = 213) (hk : yf[k]? = some (.int z)) : (yh pre post s).set 213 (.inr (12, (yfl s).set k (.int v))) = yh pre post (sf s k v) := by
  apply List.ext_getElem?
  intro m
  rw [List.getElem?_set, yh_get h, yh_get h, yh_len h]
  by_cases hm : 213 = m
  · subst hm
    rw [if_pos rfl, if_pos (by omega), if_neg (by omega), if_pos (by omega), yfl_set hk]
    rfl
  · rw [if_neg hm]
    by_cases h1 : m < 213
    · rw [if_pos h1, if_pos h1]
    · rw [if_neg h1, if_neg h1, yR_at (by omega), yR_at (by omega)]
      rfl
theorem yh_sa {pre post : xH} {s : yS} {p i t n : Nat} {v : Int32} (h : pre.length = 213) (hq : ytab p = some (t, n)) (ht : t ≠ 1) : (yh pre post s).set p (.inl (t, n, .inl (upd (s.2.1 p) i v))) = yh pre post (sa s p i v) := by
  obtain ⟨h1, h2, h3⟩ := ytab_spec hq
  apply List.ext_getElem?
  intro m
  rw [List.getElem?_set, yh_get h, yh_get h, yh_len h]
  by_cases hm : p = m
  · subst hm
    rw [if_pos rfl, if_pos (by omega), if_neg (by omega), if_pos h2, yR_at h1, h3]
    simp only [Option.map_some, ycell, sa, if_pos]
  · rw [if_neg hm]
    by_cases h4 : m < 213
    · rw [if_pos h4, if_pos h4]
    · rw [if_neg h4, if_neg h4]
      by_cases h5 : m < 288
      · rw [if_pos h5, if_pos h5]
        by_cases h6 : m = 213
        · rw [h6]
          exact yR_o rfl
        · rw [yR_at (by omega), yR_at (by omega)]
          have e : (fun q => ycell s m q) = (fun q => ycell (sa s p i v) m q) := by
            funext q
            simp only [ycell, sa, if_neg (Ne.symm hm)]
          rw [e]
      · rw [if_neg h5, if_neg h5]
theorem yh_sl {pre post : xH} {s : yS} {p i n : Nat} {v : Int64} (h : pre.length = 213) (hq : ytab p = some (1, n)) : (yh pre post s).set p (.inl (1, n, .inr (.inl (vp_updL (s.2.2 p) i v)))) = yh pre post (sl s p i v) := by
  obtain ⟨h1, h2, h3⟩ := ytab_spec hq
  apply List.ext_getElem?
  intro m
  rw [List.getElem?_set, yh_get h, yh_get h, yh_len h]
  by_cases hm : p = m
  · subst hm
    rw [if_pos rfl, if_pos (by omega), if_neg (by omega), if_pos h2, yR_at h1, h3]
    simp only [Option.map_some, ycell, sl, if_pos]
  · rw [if_neg hm]
    by_cases h4 : m < 213
    · rw [if_pos h4, if_pos h4]
    · rw [if_neg h4, if_neg h4]
      by_cases h5 : m < 288
      · rw [if_pos h5, if_pos h5]
        by_cases h6 : m = 213
        · rw [h6]
          exact yR_o rfl
        · rw [yR_at (by omega), yR_at (by omega)]
          have e : (fun q => ycell s m q) = (fun q => ycell (sl s p i v) m q) := by
            funext q
            simp only [ycell, sl, if_neg (Ne.symm hm)]
          rw [e]
      · rw [if_neg h5, if_neg h5]
