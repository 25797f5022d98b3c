/-! a tick -/
def IJ (S : S9) : Prop := JJ S ∧ ∀ s, 0 ≤ s → s < 4 → 0 ≤ S 32 s ∧ S 32 s ≤ 60
theorem IJ_II {S : S9} {B : Int} (a : II S B) : IJ S := ⟨a.1, fun s s0 s4 => by have := a.2.2.1.2.1 s s0 s4; omega⟩
theorem RC_sesJ {S S' : S9} {h h' : zH} {s : Int} (hI : IJ S) (hI' : JJ S') (hs : isS S s) (e : ∀ f j, ¬ inS s f j → S' f j = S f j) (h1 : RSes S' h' s) (hf : ∀ m, ¬ nmS s m → (m < 10000 ∨ zK h m ≠ 0) → eqAt m h h') (hw : ∀ w, 6 * s + S' 4 s ≤ w → w < 6 * s + 6 → zK h' (nW w) = 0 ∧ zK h' (nW w + 1) = 0) (a : RC S h) : RC S' h' := by
  obtain ⟨a1, a2, a3, a4, a5, a6⟩ := a
  have hN := hI.1.1
  have n1 := hN.2.1
  have n2 := hN.2.2.2.1
  have f1 : S' 1 0 = S 1 0 := e 1 0 (by unfold inS; omega)
  have f2 : S' 2 0 = S 2 0 := e 2 0 (by unfold inS; omega)
  have hs4 : s < 4 := by omega
  have nn : ∀ t m, 0 ≤ t → t < 4 → t ≠ s → nmS t m → ¬ nmS s m ∧ m < 10000 := by
    intro t m t0 t1 ts hm
    unfold nmS nS nW at *
    refine ⟨?_, ?_⟩
    · rintro (⟨j, j1, j2⟩ | ⟨w, w1, w2, w3⟩) <;> rcases hm with ⟨k, k1, k2⟩ | ⟨v, v1, v2, v3⟩ <;> omega
    · rcases hm with ⟨k, k1, k2⟩ | ⟨v, v1, v2, v3⟩ <;> omega
  have nlo : ∀ m, m < 1000 → ¬ nmS s m := fun m hm => nmS_lo hs.1 hs4 hm
  have ncl : ∀ c k, 0 ≤ c → c < 6 → k ≤ 4 → ¬ nmS s (nC c + k) ∧ nC c + k < 10000 := by
    intro c k c0 c1 hk
    unfold nmS nS nW nC
    refine ⟨?_, by omega⟩
    rintro (⟨j, j1, j2⟩ | ⟨w, w1, w2, w3⟩) <;> omega
  refine ⟨RTop_ag (fun f hf j => e f j (by unfold inS; omega)) (RTop_at (fun m m2 m5 => hf m (nlo m (by omega)) (Or.inl (by omega))) a1), fun t ht => ?_, fun c hc => ?_, fun t j t1 t4 t0 hj => ?_, fun t w t0 t1 w0 w1 => ?_, fun c k c1 c6 c0 hk => ?_⟩
  · by_cases z : t = s
    · rw [z]; exact h1
    · have hb := hI.2 t (by omega) (by omega)
      exact RSes_agS hI'.1 hI'.2.1 hI'.2.2.1 hb.1 hb.2 (fun f j hj => e f j (inS_ne hj z)) (RSes_at (fun m hm => hf m (nn t m (by omega) (by omega) z hm).1 (Or.inl (nn t m (by omega) (by omega) z hm).2)) (fun m m1 m2 => hf m (by unfold nmS nS nW; rintro (⟨j, j1, j2⟩ | ⟨w, w1, w2, w3⟩) <;> omega) (Or.inr m2)) (a2 t ⟨by omega, by omega⟩))
  · exact RCli_ag ⟨fun f f5 f9 => e f c (by unfold inS; omega), fun j j0 j1 => e 40 _ (by unfold inS; omega)⟩ (RCli_at (fun k hk => hf _ (ncl c k (by omega) (by omega) hk).1 (Or.inl (ncl c k (by omega) (by omega) hk).2)) (a3 c ⟨by omega, by omega⟩))
  · have y := nn t (nS t + j) t0 t4 (by omega) (Or.inl ⟨j, hj, rfl⟩)
    exact (hf _ y.1 (Or.inl y.2)).1.trans (a4 t j (by omega) t4 t0 hj)
  · by_cases z : t = s
    · rw [z] at w0 w1
      exact hw w w0 w1
    · have e4 : S' 4 t = S 4 t := e 4 t (inS_ne (by unfold inS; omega) z)
      have y1 := nn t (nW w) t0 t1 z (Or.inr ⟨w, by have := hN.2.2.2.2 t t0 t1; omega, w1, Or.inl rfl⟩)
      have y2 := nn t (nW w + 1) t0 t1 z (Or.inr ⟨w, by have := hN.2.2.2.2 t t0 t1; omega, w1, Or.inr rfl⟩)
      have y := a5 t w t0 t1 (by omega) w1
      exact ⟨(hf _ y1.1 (Or.inl y1.2)).1.trans y.1, (hf _ y2.1 (Or.inl y2.2)).1.trans y.2⟩
  · have y := ncl c k c0 c6 hk
    exact (hf _ y.1 (Or.inl y.2)).1.trans (a6 c k (by omega) c6 c0 hk)
theorem RC_cliJ {S S' : S9} {h h' : zH} {c : Int} (hI : IJ S) (hc : isC S c) (e : ∀ f j, ((35 ≤ f ∧ f ≤ 39) → j ≠ c) → (f = 40 → j < 96 * c ∨ 96 * c + 96 ≤ j) → S' f j = S f j) (h1 : RCli S' h' c) (hf : ∀ m, (∀ k, k ≤ 4 → m ≠ nC c + k) → eqAt m h h') (hJ : JJ S') (a : RC S h) : RC S' h' := by
  obtain ⟨a1, a2, a3, a4, a5, a6⟩ := a
  have hN := hI.1.1
  have n1 := hN.2.1
  have n2 := hN.2.2.2.1
  have e9 : ∀ f, (f < 35 ∨ 40 < f) → ∀ j, S' f j = S f j := fun f hf j => e f j (by omega) (by omega)
  refine ⟨RTop_ag (fun f hf => e9 f (by omega)) (RTop_at (fun m m2 m5 => hf m (fun k _ => by unfold nC; omega)) a1), fun s hs => ?_, fun d hd => ?_, ?_, ?_, ?_⟩
  · rw [isS, e9 1 (by decide)] at hs
    have hb := hI.2 s hs.1 (by omega)
    exact RSes_agS hJ.1 hJ.2.1 hJ.2.2.1 hb.1 hb.2 (fun f j hj => e9 f (by unfold inS at hj; omega) j) (RSes_at (fun m hm => hf m (fun k hk => by unfold nmS nS nW at hm; unfold nC; rcases hm with ⟨j, j1, j2⟩ | ⟨w, w1, w2, w3⟩ <;> omega)) (fun m m1 _ => hf m (fun k hk => by unfold nC; omega)) (a2 s hs))
  · rw [isC, e9 2 (by decide)] at hd
    by_cases z : d = c
    · rw [z]; exact h1
    · exact RCli_ag ⟨fun f h5 h9 => e f d (fun _ => z) (fun y => by omega), fun j j0 j1 => e 40 _ (fun y => by omega) (fun _ => by omega)⟩ (RCli_at (fun k hk => hf _ (fun k2 hk2 => by unfold nC; omega)) (a3 d hd))
  · rw [e9 1 (by decide)]
    exact fun t j t1 t4 t0 hj => (hf _ (fun k hk => by unfold nS nC; omega)).1.trans (a4 t j t1 t4 t0 hj)
  · simp only [e9 4 (by decide)]
    exact fun t w t0 t1 w0 w1 => by
      have y := a5 t w t0 t1 w0 w1
      have yb := hN.2.2.2.2 t t0 t1
      exact ⟨(hf _ (fun k hk => by unfold nW nC; omega)).1.trans y.1, (hf _ (fun k hk => by unfold nW nC; omega)).1.trans y.2⟩
  · rw [e9 2 (by decide)]
    exact fun d k d1 d6 d0 hk => (hf _ (fun k2 hk2 => by unfold nC; omega)).1.trans (a6 d k d1 d6 d0 hk)
/-- the change found, under another state or heap -/
theorem CFd_ag {S S' : S9} {h h' : zH} {c : Int} (eh : eqAt (nC c + 1) h h') (e : ∀ f, ((5 ≤ f ∧ f ≤ 16) ∨ f = 35) → ∀ j, S' f j = S f j) (e40 : ∀ j, 0 ≤ j → j < 96 → S' 40 (96 * c + j) = S 40 (96 * c + j)) (eP : Pc S' c = Pc S c) (a : CFd S h c) : CFd S' h' c := by
  have eR : Rc S' c = Rc S c := funext fun q => by
    show screenAt S' (S' 35 c) q = screenAt S (S 35 c) q
    rw [e 35 (by decide), screenAt_ag (fun f h5 h6 => e f (by omega))]
  have e1 : hasN S' c ↔ hasN S c := by
    show fst9 (Pc S' c) (Rc S' c) < 96 ↔ fst9 (Pc S c) (Rc S c) < 96
    rw [eP, eR]
  have e2 : bstC S' c = bstC S c := by
    show bst (Pc S' c) (Rc S' c) = bst (Pc S c) (Rc S c)
    rw [eP, eR]
  have e3 : fstC S' c = fstC S c := by
    show fst9 (Pc S' c) (Rc S' c) = fst9 (Pc S c) (Rc S c)
    rw [eP, eR]
  obtain ⟨-, -, b3, -⟩ := eh
  unfold CFd at a ⊢
  rw [e1, e2, e3, b3, b3, b3, b3, b3, b3]
  exact a
def cRef (c : Int) : Option Nat := if c < 0 then none else some (nC c)
theorem cRef_none {c : Int} (h : cRef c = none) : c < 0 := by
  unfold cRef at h
  split at h
  · assumption
  · cases h
theorem cRef_some {c : Int} {n : Nat} (h : cRef c = some n) : 0 ≤ c ∧ n = nC c := by
  unfold cRef at h
  split at h
  · cases h
  · cases h
    exact ⟨by omega, rfl⟩
/-- every client's next change is found -/
def AF (S : S9) (h : zH) (n : Int) : Prop := ∀ c, 0 ≤ c → c < n → CFd S h c
theorem rowsS_e {S : S9} {s : Int} (f : Nat) (j : Int) (h : ¬ inS s f j) : rowsS S s f j = S f j := by
  unfold inS at h
  unfold rowsS
  split
  · unfold up
    rw [if_neg (by omega), if_neg (by omega), if_neg (by omega)]
  · split
    · rename_i z1 z2
      have hr := rowN_in (S := S) (s := s) (by omega)
      unfold cpyI up
      rw [if_neg (by omega), if_neg (by omega), if_neg (by omega)]
    · unfold up
      rw [if_neg (by omega)]
theorem rowsS_JJ {S : S9} {s : Int} (a : JJ S) : JJ (rowsS S s) := JJ_ag (fun f hf j => rowsS_f (by unfold jF at hf; omega)) a
theorem rowsS_IJ {S : S9} {s : Int} (a : IJ S) : IJ (rowsS S s) := ⟨rowsS_JJ a.1, fun t t0 t4 => by rw [rowsS_f (by decide)]; exact a.2 t t0 t4⟩
theorem recS_e {S : S9} {s : Int} (hb : 0 ≤ S 32 s ∧ S 32 s ≤ 60) (f : Nat) (j : Int) (h : ¬ inS s f j) : recS S s f j = S f j := by
  unfold inS at h
  unfold recS
  split
  · rename_i z
    have e : up (lokI S s 96) 32 s (S 32 s + 1) f j = lokI S s 96 f j := if_neg (by omega)
    rw [e]
    unfold lokI
    rw [if_neg (by omega), if_neg (by omega)]
  · rfl
theorem keyW_e {S : S9} {s k : Int} (hN : IN S) (hI : IW S) (hk : IK1 S s k) (f : Nat) (j : Int) (h : ¬ inS s f j) : keyW S s k f j = S f j := by
  have hw := hk.1
  have hb := hN.2.2.2.2 s hw.1 hw.2.1
  obtain ⟨w1, w2, w3, w4, w5, w6, w7, w8, w9, w10⟩ := hI s _ hk.1
  have wa := area_le w5 w6 w7 w8
  have h4 := hw.2.2
  unfold inS at h
  unfold keyW
  split
  · unfold up
    rw [if_neg (by omega), if_neg (by omega)]
  · rfl
theorem key1_e {S : S9} {s k : Int} (hN : IN S) (hI : IW S) (hk : IK1 S s k) (f : Nat) (j : Int) (h : ¬ inS s f j) (h8 : f ≠ 38) (h9 : f ≠ 39) : key1 S s k f j = S f j := by
  unfold key1
  rw [up_f h9, up_f h8]
  exact keyW_e hN hI hk f j h
theorem keyN_e {S : S9} {s : Int} (hJ : JJ S) (s0 : 0 ≤ s) (s4 : s < 4) (f : Nat) (j : Int) (h : ¬ inS s f j) (h8 : f ≠ 38) (h9 : f ≠ 39) : ∀ n : Nat, (n : Int) ≤ S 17 s → keyN S s n f j = S f j
  | 0, _ => rfl
  | n + 1, hn => by
    have a := keyN_JJ hJ s0 s4 n (by omega)
    rw [keyN_s, key1_e a.1 a.2.1 (a.2.2.2.2 s n s0 s4 (by omega) (by rw [keyN_f (by omega)]; omega)) f j h h8 h9]
    exact keyN_e hJ s0 s4 f j h h8 h9 n (by omega)
theorem doK_e {S : S9} {s : Int} (hJ : JJ S) (s0 : 0 ≤ s) (s4 : s < 4) (f : Nat) (j : Int) (h : ¬ inS s f j) (h8 : f ≠ 38) (h9 : f ≠ 39) : doK S s f j = S f j := by
  have hb := hJ.1.2.2.2.2 s s0 s4
  have hz : ¬ (f = 17 ∧ j = s) := by
    unfold inS at h
    omega
  unfold doK
  have e : up (keyN S s (S 17 s).toNat) 17 s 0 f j = keyN S s (S 17 s).toNat f j := if_neg hz
  rw [e]
  exact keyN_e hJ s0 s4 f j h h8 h9 _ (by omega)
/-- the program behind a session's keys -/
theorem RC_doK {S : S9} {h h' : zH} {s : Int} {ed ed' : Nat} {cp' : Int} {kn : Int → Nat} (hI : IJ S) (hs : isS S s) (hed : ed = 0 ∨ ed = nS s + 16 ∨ ed = nS s + 17 ∨ ed = nS s + 18) (hx : Sx (doK S s) h' s ed' cp' kn) (hF : ∀ m, dkF S s m → m ≠ nS s + 3 → m ≠ ed → eqAt m h h') (a : RC S h) : RC (doK S s) h' := by
  obtain ⟨hV, hK, hC, hCl⟩ := hx
  have hN := hI.1.1
  have n1 := hN.2.1
  have n2 := hN.2.2.2.1
  have hJ' : JJ (doK S s) := doK_JJ hI.1 hs.1 (by omega)
  obtain ⟨a1, a2, a3, a4, a5, a6⟩ := a
  have s0 := hs.1
  have s4 : s < 4 := by omega
  have hb := hN.2.2.2.2 s s0 s4
  have e1 : ∀ f, (f ≠ 9 ∧ f ≠ 14 ∧ f ≠ 17 ∧ f ≠ 38 ∧ f ≠ 39) → ∀ j, doK S s f j = S f j := fun f hf j => doK_f hf
  have fr : ∀ m, (∀ w, 6 * s ≤ w → w < 6 * s + S 4 s → m ≠ nW w ∧ m ≠ nW w + 1) → m ≠ nS s + 4 → (∀ c, 0 ≤ c → c < S 2 0 → m ≠ nC c) → m ≠ nS s + 3 → m ≠ nS s + 16 → m ≠ nS s + 17 → m ≠ nS s + 18 → 0 < m → eqAt m h h' := fun m m1 m2 m3 m4 m5 m6 m7 m0 => hF m ⟨fun w hw => m1 w hw.2.2.1 hw.2.2.2, m2, m3⟩ m4 (by omega)
  have ns : ∀ j, j ≠ 3 → j ≠ 4 → j ≤ 15 → eqAt (nS s + j) h h' := fun j h3 h4 h15 => fr _ (fun w w0 w1 => by unfold nS nW; omega) (by omega) (fun c c0 c1 => by unfold nS nC; omega) (by omega) (by omega) (by omega) (by omega) (by unfold nS; omega)
  have lo : ∀ m, 0 < m → m < 1000 → eqAt m h h' := fun m m0 m1 => fr m (fun w w0 w1 => by unfold nW; omega) (by unfold nS; omega) (fun c c0 c1 => by unfold nC; omega) (by unfold nS; omega) (by unfold nS; omega) (by unfold nS; omega) (by unfold nS; omega) m0
  have big : ∀ m, 10000 ≤ m → eqAt m h h' := fun m m1 => fr m (fun w w0 w1 => by unfold nW; omega) (by unfold nS; omega) (fun c c0 c1 => by unfold nC; omega) (by unfold nS; omega) (by unfold nS; omega) (by unfold nS; omega) (by unfold nS; omega) (by omega)
  have oth : ∀ t j, 0 ≤ t → t < 4 → t ≠ s → j ≤ 18 → eqAt (nS t + j) h h' := fun t j t0 t4 ts hj => fr _ (fun w w0 w1 => by unfold nS nW; omega) (by unfold nS; omega) (fun c c0 c1 => by unfold nS nC; omega) (by unfold nS; omega) (by unfold nS; omega) (by unfold nS; omega) (by unfold nS; omega) (by unfold nS; omega)
  have othw : ∀ w, 0 ≤ w → w < 24 → (w < 6 * s ∨ 6 * s + S 4 s ≤ w) → eqAt (nW w) h h' ∧ eqAt (nW w + 1) h h' := fun w w0 w1 w2 => ⟨fr _ (fun v v0 v1 => by unfold nW; omega) (by unfold nS nW; omega) (fun c c0 c1 => by unfold nW nC; omega) (by unfold nS nW; omega) (by unfold nS nW; omega) (by unfold nS nW; omega) (by unfold nS nW; omega) (by unfold nW; omega), fr _ (fun v v0 v1 => by unfold nW; omega) (by unfold nS nW; omega) (fun c c0 c1 => by unfold nW nC; omega) (by unfold nS nW; omega) (by unfold nS nW; omega) (by unfold nS nW; omega) (by unfold nS nW; omega) (by unfold nW; omega)⟩
  have cl : ∀ c k, 0 ≤ c → c < 6 → k ≤ 4 → (1 ≤ k ∨ S 2 0 ≤ c) → eqAt (nC c + k) h h' := fun c k c0 c6 hk hk1 => fr _ (fun w w0 w1 => by unfold nW nC; omega) (by unfold nS nC; omega) (fun d d0 d1 => by unfold nC; omega) (by unfold nS nC; omega) (by unfold nS nC; omega) (by unfold nS nC; omega) (by unfold nS nC; omega) (by unfold nC; omega)
  refine ⟨RTop_ag (fun f hf => e1 f (by omega)) (RTop_at (fun m m2 m5 => lo m (by omega) (by omega)) a1), fun t ht => ?_, fun c hc => ?_, fun t j t1 t4 t0 hj => ?_, fun t w t0 t1 w0 w1 => ?_, fun c k c1 c6 c0 hk => ?_⟩
  · rw [isS, e1 1 (by decide)] at ht
    by_cases z : t = s
    · rw [z]
      obtain ⟨hV0, -, hC0, hWn, hCp, hT, hR, hR2⟩ := a2 s hs
      have h31 := e1 31 (by decide) s
      exact ⟨hV, ⟨ed', cp', kn, hK⟩, hC, RWn_agf (e1 4 (by decide) s) (RWn_at (ns 1 (by decide) (by decide) (by decide)) hWn), RClp_agf (fun f hf => e1 f (by omega)) (RClp_at (ns 5 (by decide) (by decide) (by decide)) hCp), RT_agf (fun f hf => e1 f (by omega)) (RT_at (ns 6 (by decide) (by decide) (by decide)) (ns 7 (by decide) (by decide) (by decide)) (ns 8 (by decide) (by decide) (by decide)) hT), fun z => RR_agf (fun f hf => e1 f (by omega)) (RRx_at (fun j j0 j1 => ns j (by omega) (by omega) (by omega)) (hR (h31.symm.trans z))), fun z j j0 j1 => (ns j (by omega) (by omega) (by omega)).1.trans (hR2 (fun y => z (h31.trans y)) j j0 j1)⟩
    · have hbt := hI.2 t ht.1 (by omega)
      have hbn := hN.2.2.2.2 t ht.1 (by omega)
      refine RSes_agS hJ'.1 hJ'.2.1 hJ'.2.2.1 hbt.1 hbt.2 (fun f j hj => doK_e hI.1 s0 s4 f j (inS_ne hj z) (by unfold inS at hj; omega) (by unfold inS at hj; omega)) (RSes_at (fun m hm => ?_) (fun m m1 _ => big m m1) (a2 t ht))
      rcases hm with ⟨j, j1, j2⟩ | ⟨w, w1, w2, w3⟩
      · rw [j2]; exact oth t j ht.1 (by omega) z j1
      · have y := othw w (by omega) (by omega) (by omega)
        rcases w3 with w3 | w3 <;> rw [w3]
        · exact y.1
        · exact y.2
  · rw [isC, e1 2 (by decide)] at hc
    refine ⟨hCl c hc.1 (by rw [e1 2 (by decide)]; exact hc.2), RCh_agf (e1 35 (by decide) c) (fun j _ _ => e1 40 (by decide) _) (RCh_at (cl c 1 hc.1 (by omega) (by decide) (Or.inl (by decide))) (cl c 2 hc.1 (by omega) (by decide) (Or.inl (by decide))) (cl c 3 hc.1 (by omega) (by decide) (Or.inl (by decide))) (cl c 4 hc.1 (by omega) (by decide) (Or.inl (by decide))) (a3 c hc).2)⟩
  · rw [e1 1 (by decide)] at t1
    exact (oth t j t0 t4 (by omega) hj).1.trans (a4 t j t1 t4 t0 hj)
  · rw [e1 4 (by decide)] at w0
    have hbn := hN.2.2.2.2 t t0 t1
    have y := othw w (by omega) (by omega) (by
      by_cases z : t = s
      · rw [z] at w0; omega
      · omega)
    have z := a5 t w t0 t1 w0 w1
    exact ⟨y.1.1.trans z.1, y.2.1.trans z.2⟩
  · rw [e1 2 (by decide)] at c1
    exact (cl c k c0 c6 hk (Or.inr c1)).1.trans (a6 c k c1 c6 c0 hk)
theorem sendS_c {S : S9} {c j : Int} {f : Nat} (h : (f = 37 → j ≠ c) ∧ (f = 40 → j < 96 * c ∨ 96 * c + 96 ≤ j)) : sendS S c f j = S f j := by
  unfold sendS payS chgS chgI
  rw [if_neg (by omega)]
  unfold up
  rw [if_neg (by omega)]
theorem sendS_JJ {S : S9} {c : Int} (a : JJ S) : JJ (sendS S c) := JJ_ag (fun f hf j => sendS_f (by unfold jF at hf; omega)) a
theorem chgS_pay {S : S9} {c q : Int} : sendS S c 40 q = chgS S c (Pc S c) (Rc S c) (bstC S c) (fstC S c) 40 q := by
  unfold sendS chgS chgI payS
  by_cases z : (40 = 40 ∧ (96 * c ≤ q ∧ q < 96 * c + 96) ∧ ((0 ≤ (q - 96 * c) % 12 - fstC S c % 12 ∧ (q - 96 * c) % 12 - fstC S c % 12 < (bstC S c).2.2.2.1) ∧ 0 ≤ (q - 96 * c) / 12 - fstC S c / 12 ∧ (q - 96 * c) / 12 - fstC S c / 12 < (bstC S c).2.2.2.2.1) ∧ ((q - 96 * c) / 12 - fstC S c / 12) * (bstC S c).2.2.2.1 + ((q - 96 * c) % 12 - fstC S c % 12) < (bstC S c).2.2.2.1 * (bstC S c).2.2.2.2.1)
  · rw [if_pos z, if_pos z]
  · rw [if_neg z, if_neg z, up_f (by decide)]
theorem sendS_37c {S : S9} {c : Int} : sendS S c 37 c = if (bstC S c).2.1 < S 37 c then S 37 c - (bstC S c).2.1 else 0 := by
  unfold sendS
  rw [chgS_f (by decide)]
  unfold payS
  rw [up_eq]
