/-! Arrays.copyOf, and a list's growth -/
theorem zE_7 {l : Launch} {Y : zM} {p : Program} {s : State} {m : MethodId} {args : Array Value} {meth : Method} {c : Code} {D : va_G} {dA : Nat → ClassId} {A : Nat → Prop} {e0 e1 : Nat} (C : zCX l Y p s m args meth c dA A e0 e1) {ad : Nat → Nat} {h : zH} {H : Heap} {mi e : Nat} (hmi : va_Mi "[Ljava/lang/Object;" mi s) (hP : zP s D dA A ad h H) (he : zK h e = 107) : ∃ cell : Cell, H[ad e]? = some cell ∧ cell.vm.isStatics = false ∧ s.vm.findClass "[Ljava/lang/Object;" = some cell.cls := by
  obtain ⟨L, tys, q0, t0, h1, h2, h3, h4, h5, hq, ht0, hw⟩ := zP_row hP (t := 7) he
  obtain ⟨c0, k0, f1, f2, f3⟩ := hmi
  have e7 : dA 7 = c0 := C.2.2.2.2.2.2.2.2.2.1 7 c0 (by rw [show ("[" ++ (zAt 7).toString) = "[Ljava/lang/Object;" by decide +kernel]; exact f1)
  have h9 : H[ad e]? = some (vp_cell (dA 7) (zRw ad h 7 e)) := h4 q0 _ hw
  refine ⟨_, h9, rfl, ?_⟩
  rw [f1, ← e7]
  rfl
set_option maxHeartbeats 4000000 in
set_option maxRecDepth 100000 in
theorem c_copy1 {l : Launch} (hl : l.stackTraces = false) (hMi : MiOK) {h : zH} {e a N : Nat} {cp : Int} (he : zK h e = 107) (hcp : zN h e = cp) (hz0 : 0 ≤ cp) (hn : cp ≤ N) (hN : N ≤ 40) (a1 : 1 < a) (ha : zK h a = 0) (hel : ∀ i, 0 ≤ i → i < cp → ∀ y, zq h e i = some y → zK h y = 5) : zC l MJ7_copyOf_1904c [zR (some e), zI N] h (fun o h' => o = .inl (some (zR (some a))) ∧ h' = cqH h e a N cp) := by
  refine zC_of hl rfl rfl (by decide) rfl rfl (Nat.le_of_ble_eq_true rfl) ?_
  refine e_aload_n dJ7_copyOf_1904c_0 rfl rfl ?_
  refine e_iload_n dJ7_copyOf_1904c_1 rfl rfl ?_
  refine e_aload_n dJ7_copyOf_1904c_2 rfl rfl ?_
  have K9 : AW l MJ7_copyOf_1904c (fun o h' => o = .inl (some (zR (some a))) ∧ h' = cqH h e a N cp) (0 + 1) (0 + 40) 9 [zR (some e), zI N] [zR (some a)] (cqH h e a N cp) := e_aret dJ7_copyOf_1904c_9 rfl rfl (by decide) (by decide) ⟨rfl, rfl⟩
  intro p e9 s m args below meth c D dA ad0 h0 A C H locs ad lm hP hE hS hL o1 o2
  obtain ⟨⟨mi, hmi⟩, hdc⟩ := hMi C
  have hT := C.2.2.2.2.2.1
  refine va_getC C.1 C.2.1 (C.2.2.2.1.trans hL.1.symm) C.2.2.2.2.1 (hT _ gw86) (va_Dc.use hdc) (hT _ gwSe) (hT _ gwIn) (hT _ gwNa) hmi (zE_7 C hmi hP he) (by decide) (Nat.le_of_ble_eq_true rfl) dJ7_copyOf_1904c_3 ?_
  have oA : ∀ v ∈ [zR (some e), zI (N : Int)], zokv h v := fun v hv => o1 v hv
  have hA := zA_sub (sz := H.size) hP (fun q hq => C.2.2.2.2.2.2.2.2.2.2.2.2.1 q (Nat.le_trans hS.1 hq))
  have hG : GoodIn zT (va_wsS (zMy MJ7_copyOf_1904c).cls 300 (zMy MJ7_copyOf_6403c) (zWs MJ7_copyOf_6403c)) := by
    refine zT_in (fun w hw => ?_)
    rcases List.mem_append.mp hw with hw | hw
    · simp only [List.mem_cons, List.not_mem_nil, or_false] at hw
      rcases hw with rfl | rfl | rfl
      · exact mlJ7_300
      · exact msG_6
      · exact moG_6.2.1
    · exact zWs_in moG_6 w hw
  refine z_goes (vx_runS (As := [.ref (ad e), .int (Int32.ofInt N), .ref mi]) (rest := []) (nL := zMn MJ7_copyOf_1904c) ⟨C.1, C.2.1, C.2.2.2.1, C.2.2.2.2.1, hT⟩ (met6 hl (aw6 he hcp hz0 hn hN a1 ha hel (Q := fun o h' => o = .inl (some (zR (some a))) ∧ h' = cqH h e a N cp) ⟨rfl, rfl⟩) D dA ad H.size mi) (va_cwS 3 hT hG rfl rfl rfl moG_6.2.2 ⟨by decide, by decide⟩) ⟨zB6_blind, fun U hU hW => ⟨rfl, zB_for C hP hE hS oA hU hW, va_Mi.moved hW.alike hmi⟩⟩ rfl rfl hL.1 rfl (lv_room (by decide)) dJ7_copyOf_1904c_6 ⟨by decide, by decide⟩) hS hA ?_ ?_
  · intro E h1 ad1 H1 locs1 q ce g1 g2 g3 g4 g5 g6 g7
    cases g1.1
  · intro v h1 ad1 H1 locs1 g1 g2 g3 g4 g5
    obtain ⟨e1, e2⟩ := g1
    cases e1
    subst e2
    exact K9 p e9 s m args below meth c D dA ad0 h0 A C H1 locs1 ad1 lm g2 (zE_tr hE g3) g4 (zLO_E g3 o1 hL) (fun v hv => zokv_E g3 (o1 v hv)) (fun w hw => by
      rw [List.mem_singleton.mp hw]
      exact g5 _ rfl)
