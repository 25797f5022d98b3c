/-! the check made -/
def CT (n : Nat) (h0 h : zH) : Prop := zK h 99 = 11 ∧ (∀ f, 4 ≤ f → f < n → zr h (1000 + f) 99 = some (100 + f) ∧ zK h (100 + f) = mK f ∧ zN h (100 + f) = mL f ∧ ∀ j, za h (100 + f) j = 0) ∧ (∀ f, n ≤ f → f ≤ 42 → zK h (100 + f) = 0) ∧ (∀ f, zf h (1000 + f) 99 = 0) ∧ zl h 1003 99 = 0 ∧ ∀ m, (m < 99 ∨ 142 < m) → eqAt m h0 h
theorem CT_s {n : Nat} {h0 h : zH} {kd : Nat} {len : Int} (hC : CT n h0 h) (h4 : 4 ≤ n) (h42 : n ≤ 42) (hk : mK n = kd) (hl : mL n = len) : CT (n + 1) h0 (sr (nw h (100 + n) kd len) (1000 + n) 99 (some (100 + n))) := by
  obtain ⟨a1, a2, a3, a4, a5, a6⟩ := hC
  refine ⟨?_, fun f f4 fn => ?_, fun f fn f42 => ?_, fun f => ?_, ?_, fun m hm => ?_⟩
  · show (if 99 = 100 + n then kd else zK h 99) = 11
    rw [if_neg (by omega)]
    exact a1
  · by_cases e : f = n
    · subst e
      refine ⟨?_, ?_, ?_, fun j => ?_⟩
      · show z2 _ _ _ _ _ _ = _
        exact z2_eq
      · show (if 100 + f = 100 + f then kd else zK h (100 + f)) = mK f
        rw [if_pos rfl, hk]
      · show (if 100 + f = 100 + f then len else zN h (100 + f)) = mL f
        rw [if_pos rfl, hl]
      · show (if 100 + f = 100 + f then 0 else za h (100 + f) j) = 0
        rw [if_pos rfl]
    · obtain ⟨b1, b2, b3, b4⟩ := a2 f f4 (by omega)
      refine ⟨?_, ?_, ?_, fun j => ?_⟩
      · show z2 (fun j m => if m = 100 + n then none else zr h j m) (1000 + n) 99 (some (100 + n)) (1000 + f) 99 = _
        rw [z2_ni (by omega), if_neg (by omega)]
        exact b1
      · show (if 100 + f = 100 + n then kd else zK h (100 + f)) = mK f
        rw [if_neg (by omega), b2]
      · show (if 100 + f = 100 + n then len else zN h (100 + f)) = mL f
        rw [if_neg (by omega), b3]
      · show (if 100 + f = 100 + n then 0 else za h (100 + f) j) = 0
        rw [if_neg (by omega), b4]
  · show (if 100 + f = 100 + n then kd else zK h (100 + f)) = 0
    rw [if_neg (by omega)]
    exact a3 f (by omega) f42
  · show (if 99 = 100 + n then 0 else zf h (1000 + f) 99) = 0
    rw [if_neg (by omega)]
    exact a4 f
  · show (if 99 = 100 + n then 0 else zl h 1003 99) = 0
    rw [if_neg (by omega)]
    exact a5
  · exact eqAt_tr (a6 m hm) (eqAt_tr (eqAt_nw (by omega)) (eqAt_sr (by omega)))
def S0 : S9 := fun _ _ => 0
theorem CT_M {h0 h : zH} (hC : CT 43 h0 h) : MM S0 h0 h := by
  obtain ⟨a1, a2, a3, a4, a5, a6⟩ := hC
  refine ⟨⟨a1, fun f _ => a4 f, a5, fun f f4 f42 => ?_⟩, a6⟩
  obtain ⟨b1, b2, b3, b4⟩ := a2 f f4 (by omega)
  exact ⟨b1, b2, b3, fun _ j => b4 j⟩
theorem CT_k {n kd : Nat} {h0 h : zH} {len : Int} (hC : CT n h0 h) (h4 : 4 ≤ n) : zK (nw h (100 + n) kd len) 99 = 10 + 1 := (if_neg (by omega)).trans hC.1
theorem e_heq {l : Launch} {Y : zM} {Q : zO → zH → Prop} {k n pc : Nat} {ls st : List zV} {h h' : zH} (e : h = h') (K : AW l Y Q k n pc ls st h') : AW l Y Q k n pc ls st h := by rw [e]; exact K
