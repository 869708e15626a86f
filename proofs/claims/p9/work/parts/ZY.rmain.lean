/-! ===== the reference: main's E ===== -/
section ZYM
variable {K L W ar kd : Int → Int} {n lo hi B b A0 x y : Int} {TN Ls : List Int} {s : yS} {d : Nat} {t z z' : Int} {a1 : Int32}
/-- the scope of main: nothing -/
def mnS : Scp := ([], [], fun _ => [], [], [])
theorem EWd_mn (h : PRm K L W ar kd n lo hi TN Ls) (hB : 0 ≤ B) (hb : 0 ≤ b) : EWd K L W ar kd TN Ls n lo hi B b 1000 2000 mnS := by
  have hnT := PR_nT h
  have h24 := h.2.2.1.1
  obtain ⟨⟨hX, hD, hlo, hhi⟩, hTN, -⟩ := id h
  have hTw : ∀ v ∈ TN, wTk K n v := fun v hv => tNm_w hD hlo hhi v (by unfold tNm; rw [← hTN]; exact hv)
  refine ⟨h, ⟨fun v hv => absurd hv List.not_mem_nil, fun v hv => absurd hv List.not_mem_nil, hTw, ⟨Nat.zero_le _, Nat.zero_le _, by omega⟩, ⟨by decide, by decide⟩, (PR_ar h).2, (PR_ar h).1⟩, ⟨?_, Or.inl rfl, Or.inl rfl⟩, hB, hb⟩
  unfold bOK
  omega
/-- a state behind place(-1, -1, -1): main's E is typed -/
theorem m_217 (h : PRm K L W ar kd n lo hi TN Ls) (hB : 0 ≤ B) (hS : RST K L W ar kd TN Ls n B b A0 x y s) (h8 : (s.1 8).toInt = 0) (h64 : (s.1 64).toInt = 100000) (h70 : 0 ≤ (s.1 70).toInt) (h76 : (s.1 76).toInt = -1) (h77 : (s.1 77).toInt = -1) (h78 : (s.1 78).toInt = -1) (hA0 : A0 ≤ (s.1 65).toInt) (hT : eT K L B s 10 z z' t a1.toInt) (hp : (p_e K L 10 false (0, t)).1 = 0) (ht : 0 ≤ t) (hht : hi ≤ t) (hn : nxE K L t ≤ n) (hA : (s.1 65).toInt + (nxE K L t - t) ≤ 100000) : Par d 217 [.ref 213, .int a1] s (EPq K L ar TN Ls B A0 1000 2000 mnS z z' (nxE K L t - t) (exE6 K L W ar kd TN Ls mnS 10 t) (fun u => eC K L W ar kd TN Ls B 1000 2000 mnS A0 (u.1 65).toInt u 10 z z' t a1.toInt) s) := by
  have hb : 0 ≤ b := hS.2.2.2.2.2.2
  have hI : EIn K L W ar kd TN Ls n B b A0 x y 1000 2000 mnS s := ⟨hS, ⟨hS.1.1, Or.inl ⟨by omega, rfl⟩, Or.inr (Or.inr ⟨by omega, by omega, rfl⟩)⟩, ⟨hA0, by omega, h70⟩, Or.inl ⟨by omega, rfl⟩⟩
  exact E217_all (EWd_mn h hB hb) 10 (by decide) d a1 z z' t s hI h8 hT hp ht hn (fun v v1 _ => mn_ns h (by omega)) hA
end ZYM
