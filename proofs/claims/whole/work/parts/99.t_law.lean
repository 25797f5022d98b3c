/-! the law from its beginning -/
/-- nothing named -/
def zH0 : zH := (fun _ => 0, fun _ => 0, fun _ _ => 0, fun _ _ => 0, fun _ _ => none, fun _ _ => none, fun _ _ => 0, fun _ _ => 0, fun _ _ => 0)
def hL1 : zH := sl (sr (nw (sr (nw (sr (nw (nw zH0 2 (9 + 1) 0) 3 (100 + 5) 4) 900 2 (some 3)) 4 (100 + 4) 6) 901 2 (some 4)) 5 (100 + 1) 48) 902 2 (some 5)) 903 2 0
theorem hL1_K {m : Nat} (h : m < 2 ∨ 5 < m) : zK hL1 m = 0 := by
  show (if m = 5 then _ else if m = 4 then _ else if m = 3 then _ else if m = 2 then _ else 0) = 0
  rw [if_neg (by omega), if_neg (by omega), if_neg (by omega), if_neg (by omega)]
theorem S00 {f : Nat} {j : Int} : S0 f j = 0 := rfl
theorem I4_0 : I4 S0 0 := by
  refine ⟨⟨⟨by simp only [S00]; decide, by simp only [S00]; decide, by simp only [S00]; decide, by simp only [S00]; decide, fun s _ _ => ⟨by simp only [S00]; decide, by simp only [S00]; decide, by simp only [S00]; decide, by simp only [S00]; decide, by simp only [S00]; decide, by simp only [S00]; decide⟩⟩, fun s w hw => ?_, fun s i _ _ i0 i1 => ?_, fun c c0 c1 => ?_, fun s k _ _ k0 k1 => ?_⟩, ⟨fun s i j _ _ i0 ij j1 => ?_, fun s w hw h1 => ?_⟩, ⟨fun c c0 c1 => ?_, fun s _ _ => ⟨by simp only [S00]; decide, by simp only [S00]; decide, by simp only [S00]; decide, by simp only [S00]; decide, by simp only [S00]; decide, by simp only [S00]; decide⟩, fun c c0 c1 => ?_⟩, ⟨fun _ _ _ _ => ⟨rfl, rfl⟩, fun _ _ _ => ⟨rfl, rfl, rfl, rfl, rfl, rfl, rfl, fun _ _ _ => rfl, fun _ _ _ => rfl⟩, fun _ _ _ _ _ _ => ⟨rfl, rfl, rfl, fun _ _ _ => rfl⟩, fun _ _ _ => ⟨rfl, rfl, rfl, fun _ _ _ => rfl⟩, fun _ _ _ => ⟨by simp only [S00]; decide, by simp only [S00]; decide, fun z => absurd rfl z⟩⟩⟩
  · obtain ⟨_, _, a, b⟩ := hw
    have : S0 4 s = 0 := rfl
    omega
  · have : S0 16 s = 0 := rfl
    omega
  · have : S0 2 0 = 0 := rfl
    omega
  · have : S0 17 s = 0 := rfl
    omega
  · have : S0 16 s = 0 := rfl
    omega
  · cases h1
  · have : S0 2 0 = 0 := rfl
    omega
  · have : S0 2 0 = 0 := rfl
    omega
theorem RC_0 : RC S0 hL1 := by
  refine ⟨⟨⟨rfl, rfl, rfl, rfl, rfl⟩, ⟨rfl, rfl, fun s s0 s1 => ?_⟩, ⟨rfl, rfl, fun c c0 c1 => ?_⟩, rfl, rfl, fun j j0 j1 => rfl⟩, fun s hs => ?_, fun c hc => ?_, fun s j s1 s4 s0 hj => hL1_K (by unfold nS; omega), fun s w s0 s4 w0 w1 => ⟨hL1_K (by unfold nW; omega), hL1_K (by unfold nW; omega)⟩, fun c k c1 c6 c0 hk => hL1_K (by unfold nC; omega)⟩
  · have : S0 1 0 = 0 := rfl
    rw [if_neg (by omega)]
    rfl
  · have : S0 2 0 = 0 := rfl
    rw [if_neg (by omega)]
    rfl
  · have : S0 1 0 = 0 := rfl
    omega
  · have : S0 2 0 = 0 := rfl
    omega
theorem CT_0 : CT 4 hL1 (nw hL1 99 (10 + 1) 0) := by
  refine ⟨rfl, fun f f4 fn => by omega, fun f f4 f42 => ?_, fun f => rfl, rfl, fun m hm => eqAt_nw (by omega)⟩
  show (if 100 + f = 99 then _ else zK hL1 (100 + f)) = 0
  rw [if_neg (by omega)]
  exact hL1_K (by omega)
set_option maxHeartbeats 4000000 in
set_option maxRecDepth 100000 in
theorem law_AW {l : Launch} (hl : l.stackTraces = false) (hG : GMore l) {L : Nat} {f : Nat → Int32} (hL : L ≤ 4096) : AW l (MLW L f) QW 0 0 0 [zY, zX, zX, zX, zX, zX, zX, zX, zX] [] zH0 := by
  refine e_new (ci := 9) 2 dL_law_0 (by decide) clL_8 tn_X8.1 tn_X8.2 (by decide) rfl (Nat.le_of_ble_eq_true rfl) (Nat.le_of_ble_eq_true rfl) ?_
  refine e_dup dL_law_3 rfl ?_
  refine e_callI (As := []) dL_law_4 moX8_init miX8_init rfl rfl mlL_130 rfl (Nat.le_of_ble_eq_true rfl) ⟨Nat.le_of_ble_eq_true rfl, Nat.le_of_ble_eq_true rfl, Nat.le_of_ble_eq_true rfl, Nat.le_of_ble_eq_true rfl⟩ (c_X8_init hl (h := nw zH0 2 (9 + 1) 0) rfl rfl rfl rfl) (fun E h1 q => by cases q.1) (fun v9 h1 q => ?_)
  obtain ⟨e1, e2⟩ := q
  cases e1
  have e3 : h1 = hL1 := e2
  rw [e3]
  clear e2 e3 h1
  refine e_astore_n dL_law_7 rfl (Nat.le_of_ble_eq_true rfl) rfl rfl ?_
  refine e_new (ci := 10) 99 dL_law_8 (by decide) clL_131 tn_X9.1 tn_X9.2 (by decide) (hL1_K (by decide)) (Nat.le_of_ble_eq_true rfl) (Nat.le_of_ble_eq_true rfl) ?_
  refine e_dup dL_law_11 rfl ?_
  refine e_callI (As := []) dL_law_12 moX9_init miX9_init rfl rfl mlL_133 rfl (Nat.le_of_ble_eq_true rfl) ⟨Nat.le_of_ble_eq_true rfl, Nat.le_of_ble_eq_true rfl, Nat.le_of_ble_eq_true rfl, Nat.le_of_ble_eq_true rfl⟩ (c_X9_init hl CT_0) (fun E h1 q => by cases q.1) (fun v9 h1 q => ?_)
  obtain ⟨e1, hM⟩ := q
  cases e1
  have f6 : zK h1 6 = 0 := (hM.2 6 (by decide)).1.trans (hL1_K (by decide))
  have f7 : zK h1 7 = 0 := (hM.2 7 (by decide)).1.trans (hL1_K (by decide))
  refine e_astore_n dL_law_15 rfl (Nat.le_of_ble_eq_true rfl) rfl rfl ?_
  refine e_iconst dL_law_16 ?_
  refine e_newa 6 2 1 dL_law_17 (by decide) rfl tw_arrLong rfl (by decide) (by decide) f6 (Nat.le_of_ble_eq_true rfl) (Nat.le_of_ble_eq_true rfl) ?_
  refine e_astore_n dL_law_19 rfl (Nat.le_of_ble_eq_true rfl) rfl rfl ?_
  refine e_iconst dL_law_20 ?_
  refine e_newa 7 3 1 dL_law_21 (by decide) rfl tw_arrDouble rfl (by decide) (by decide) ((eqAt_nw (by decide)).1.trans f7) (Nat.le_of_ble_eq_true rfl) (Nat.le_of_ble_eq_true rfl) ?_
  refine e_astore dL_law_23 (Nat.le_of_ble_eq_true rfl) rfl rfl ?_
  refine e_iconst dL_law_25 ?_
  refine e_istore dL_law_26 (Nat.le_of_ble_eq_true rfl) rfl rfl ?_
  have fr : ∀ m, m ≠ 6 → m ≠ 7 → eqAt m h1 (nw (nw h1 6 (100 + 2) 1) 7 (100 + 3) 1) := fun m h6 h7 => eqAt_tr (eqAt_nw h6) (eqAt_nw h7)
  refine e_wid 100 50000 (Nat.le_of_ble_eq_true rfl) (Nat.le_of_ble_eq_true rfl) ?_
  refine law_loop hl hG hL 512 S0 _ 0 0 100 50000 (by omega) (by omega) (by omega) (by omega) (by omega) (by omega) ⟨RM_fr (fun m m0 m1 => fr m (by omega) (by omega)) hM.1, RC_67 fr (RC_99 hM.2 RC_0), I4_0, ⟨rfl, rfl⟩, ⟨rfl, rfl⟩, by omega⟩
