/-! ticks -/
def rowsN (S : S9) : Nat → S9
  | 0 => S
  | n + 1 => rowsS (rowsN S n) n
def monI (S : S9) (n : Int) : S9 := fun f j => if f = 37 ∧ 0 ≤ j ∧ j < n then (if 60 < S 37 j + S 36 j then 60 else S 37 j + S 36 j) else S f j
def sesS (S : S9) (s : Int) : S9 := recS (if S 27 s = 1 then S else doK S s) s
def sesN (S : S9) : Nat → S9
  | 0 => S
  | n + 1 => sesS (sesN S n) n
/-- the state before the line, in a tick -/
def befS (S : S9) : S9 := monI (rowsN S (S 1 0).toNat) (S 2 0)
def tik1 (S : S9) : S9 := sesN (lineS (befS S) 24 24).1 (S 1 0).toNat
def tikU (S : S9) : Int := 24 - (lineS (befS S) 24 24).2
def tikN (S : S9) : Nat → S9
  | 0 => S
  | n + 1 => tik1 (tikN S n)
def tikV (S : S9) : Nat → Int
  | 0 => 0
  | n + 1 => tikV S n + tikU (tikN S n)
def tikS (S : S9) (n : Int) : S9 := up (tikN S n.toNat) 3 0 (S 3 0 + tikV S n.toNat)
theorem tikN_s (S : S9) (n : Nat) : tikN S (n + 1) = tik1 (tikN S n) := rfl
theorem tikV_s (S : S9) (n : Nat) : tikV S (n + 1) = tikV S n + tikU (tikN S n) := rfl
theorem rowsS_f {S : S9} {s j : Int} {f : Nat} (h : f ≠ 26 ∧ f ≠ 27 ∧ f ≠ 28 ∧ f ≠ 29 ∧ f ≠ 30) : rowsS S s f j = S f j := by
  unfold rowsS
  split
  · rw [up_f (by omega), up_f (by omega), up_f (by omega)]
  · split
    · unfold cpyI
      rw [if_neg (by omega), up_f (by omega), up_f (by omega)]
    · rw [up_f (by omega)]
theorem rowsN_f {S : S9} {j : Int} {f : Nat} (h : f ≠ 26 ∧ f ≠ 27 ∧ f ≠ 28 ∧ f ≠ 29 ∧ f ≠ 30) : ∀ n : Nat, rowsN S n f j = S f j
  | 0 => rfl
  | n + 1 => by
    unfold rowsN
    rw [rowsS_f h, rowsN_f h n]
theorem monI_f {S : S9} {n j : Int} {f : Nat} (h : f ≠ 37) : monI S n f j = S f j := if_neg (fun z => h z.1)
theorem lineS_f {j : Int} {f : Nat} (h : f ≠ 37 ∧ f ≠ 40) : ∀ (u : Nat) (S : S9) (left : Int), (lineS S left u).1 f j = S f j
  | 0, _, _ => rfl
  | u + 1, S, left => by
    rw [lineS_s]
    split
    · rfl
    · rw [lineS_f h u, sendS_f h]
theorem lineS_in : ∀ (u : Nat) (S : S9) (left : Int), 0 ≤ left → 0 ≤ (lineS S left u).2 ∧ (lineS S left u).2 ≤ left
  | 0, _, _, h => ⟨h, Int.le_refl _⟩
  | u + 1, S, left, h => by
    rw [lineS_s]
    split
    · exact ⟨h, Int.le_refl _⟩
    · rename_i e
      rcases chN_in S left (S 2 0).toNat with z | z
      · omega
      · have h1 := bstC_ok z.2.2.1
        have := lineS_in u (sendS S (chN S left (S 2 0).toNat)) (left - (bstC S (chN S left (S 2 0).toNat)).2.1) (by omega)
        omega
theorem doK_f {S : S9} {s j : Int} {f : Nat} (h : f ≠ 9 ∧ f ≠ 14 ∧ f ≠ 17 ∧ f ≠ 38 ∧ f ≠ 39) : doK S s f j = S f j := by
  unfold doK
  rw [up_f (by omega), keyN_f (by omega)]
theorem recS_f {S : S9} {s j : Int} {f : Nat} (h : f ≠ 32 ∧ f ≠ 33 ∧ f ≠ 34) : recS S s f j = S f j := by
  unfold recS
  split
  · rw [up_f (by omega), lokI_f (by omega)]
  · rfl
theorem sesS_f {S : S9} {s j : Int} {f : Nat} (h : f ≠ 9 ∧ f ≠ 14 ∧ f ≠ 17 ∧ f ≠ 38 ∧ f ≠ 39 ∧ f ≠ 32 ∧ f ≠ 33 ∧ f ≠ 34) : sesS S s f j = S f j := by
  unfold sesS
  rw [recS_f (by omega)]
  split
  · rfl
  · rw [doK_f (by omega)]
theorem sesN_f {S : S9} {j : Int} {f : Nat} (h : f ≠ 9 ∧ f ≠ 14 ∧ f ≠ 17 ∧ f ≠ 38 ∧ f ≠ 39 ∧ f ≠ 32 ∧ f ≠ 33 ∧ f ≠ 34) : ∀ n : Nat, sesN S n f j = S f j
  | 0 => rfl
  | n + 1 => by
    unfold sesN
    rw [sesS_f h, sesN_f h n]
theorem befS_f {S : S9} {j : Int} {f : Nat} (h : f ≠ 26 ∧ f ≠ 27 ∧ f ≠ 28 ∧ f ≠ 29 ∧ f ≠ 30 ∧ f ≠ 37) : befS S f j = S f j := by
  unfold befS
  rw [monI_f (by omega), rowsN_f (by omega)]
theorem tik1_f {S : S9} {j : Int} {f : Nat} (h : f ≤ 8 ∨ (10 ≤ f ∧ f ≤ 13) ∨ f = 15 ∨ f = 16 ∨ (18 ≤ f ∧ f ≤ 25) ∨ f = 31 ∨ f = 35 ∨ f = 36) : tik1 S f j = S f j := by
  unfold tik1
  rw [sesN_f (by omega), lineS_f (by omega), befS_f (by omega)]
theorem tikN_f {S : S9} {j : Int} {f : Nat} (h : f ≤ 8 ∨ (10 ≤ f ∧ f ≤ 13) ∨ f = 15 ∨ f = 16 ∨ (18 ≤ f ∧ f ≤ 25) ∨ f = 31 ∨ f = 35 ∨ f = 36) : ∀ n : Nat, tikN S n f j = S f j
  | 0 => rfl
  | n + 1 => by
    rw [tikN_s, tik1_f h, tikN_f h n]
theorem tikV_in {S : S9} : ∀ n : Nat, 0 ≤ tikV S n ∧ tikV S n ≤ 24 * n
  | 0 => by unfold tikV; omega
  | n + 1 => by
    have h1 := tikV_in (S := S) n
    have h2 := lineS_in 24 (befS (tikN S n)) 24 (by decide)
    rw [tikV_s]
    unfold tikU
    omega
/-- counters: how far they may have gone -/
def IB (S : S9) (B : Int) : Prop := IG S B ∧ (∀ s, 0 ≤ s → s < 4 → 0 ≤ S 28 s ∧ S 28 s ≤ B ∧ 0 ≤ S 32 s ∧ S 32 s ≤ 60 ∧ 0 ≤ S 33 s ∧ S 33 s ≤ 96 * S 32 s) ∧ ∀ c, 0 ≤ c → c < S 2 0 → 0 ≤ S 36 c ∧ S 36 c ≤ 9 ∧ 0 ≤ S 37 c ∧ S 37 c ≤ 60
theorem doK_JJ {S : S9} {s : Int} (h : JJ S) (h0 : 0 ≤ s) (h1 : s < 4) : JJ (doK S s) := by
  have hb := h.1.2.2.2.2
  have h2 := keyN_JJ h h0 h1 (S 17 s).toNat (by have := hb s h0 h1; omega)
  unfold doK
  generalize keyN S s (S 17 s).toNat = S1 at h2
  obtain ⟨a1, a2, a3, a4, a5⟩ := h2
  refine ⟨⟨?_, ?_, ?_, ?_, fun t t0 t1 => ?_⟩, IW_ag (fun f hf hg j => up_f (by omega)) a2, IO_ag (fun f hf j => up_f (by omega)) a3, IC_ag (fun f hf j => up_f (by omega)) a4, fun t k t0 t1 k0 k1 => ?_⟩
  · rw [up_f (by omega)]; exact a1.1
  · rw [up_f (by omega)]; exact a1.2.1
  · rw [up_f (by omega)]; exact a1.2.2.1
  · rw [up_f (by omega)]; exact a1.2.2.2.1
  · have := a1.2.2.2.2 t t0 t1
    rw [up_f (by omega), up_f (by omega), up_at]
    split <;> omega
  · rw [up_at] at k1
    split at k1
    · omega
    · have := a5 t k t0 t1 k0 k1
      unfold IK1 at this ⊢
      simp only [hasW, up_f (show (18 : Nat) ≠ 17 by decide), up_f (show (20 : Nat) ≠ 17 by decide), up_f (show (21 : Nat) ≠ 17 by decide), up_f (show (2 : Nat) ≠ 17 by decide), up_f (show (4 : Nat) ≠ 17 by decide), up_f (show (7 : Nat) ≠ 17 by decide), up_f (show (8 : Nat) ≠ 17 by decide)] at this ⊢
      exact this
theorem recS_JJ {S : S9} {s : Int} (h : JJ S) : JJ (recS S s) := JJ_ag (fun f hf j => recS_f (by unfold jF at hf; omega)) h
theorem sesS_JJ {S : S9} {s : Int} (h : JJ S) (h0 : 0 ≤ s) (h1 : s < 4) : JJ (sesS S s) := by
  unfold sesS
  split
  · exact recS_JJ h
  · exact recS_JJ (doK_JJ h h0 h1)
theorem sesN_JJ {S : S9} (h : JJ S) : ∀ n : Nat, n ≤ 4 → JJ (sesN S n)
  | 0, _ => h
  | n + 1, hn => by
    unfold sesN
    exact sesS_JJ (sesN_JJ h n (by omega)) (by omega) (by omega)
theorem befS_JJ {S : S9} (h : JJ S) : JJ (befS S) := JJ_ag (fun f hf j => befS_f (by unfold jF at hf; omega)) h
theorem lineS_JJ {S : S9} (h : JJ S) (left : Int) (u : Nat) : JJ (lineS S left u).1 := JJ_ag (fun f hf j => lineS_f (by unfold jF at hf; omega) u S left) h
theorem tik1_JJ {S : S9} (h : JJ S) : JJ (tik1 S) := by
  unfold tik1
  exact sesN_JJ (lineS_JJ (befS_JJ h) 24 24) _ (by have := h.1.2.1; omega)
theorem tikN_JJ {S : S9} (h : JJ S) : ∀ n : Nat, JJ (tikN S n)
  | 0 => h
  | n + 1 => by
    rw [tikN_s]
    exact tik1_JJ (tikN_JJ h n)
theorem monI_s {S : S9} {n v j : Int} {f : Nat} (hn : 0 ≤ n) (hv : (if 60 < S 37 n + S 36 n then 60 else S 37 n + S 36 n) = v) : monI S (n + 1) f j = up (monI S n) 37 n v f j := by
  by_cases e : f = 37 ∧ j = n
  · obtain ⟨rfl, rfl⟩ := e
    rw [up_eq, ← hv]
    unfold monI
    rw [if_pos ⟨rfl, hn, by omega⟩]
  · have e2 : up (monI S n) 37 n v f j = monI S n f j := if_neg e
    rw [e2]
    unfold monI
    by_cases e3 : f = 37 ∧ 0 ≤ j ∧ j < n
    · rw [if_pos e3, if_pos (by omega)]
    · rw [if_neg e3, if_neg (by omega)]
/-- bounds at a tick: sorted by rows -/
theorem IG_ag {S S' : S9} {B : Int} (h : ∀ f, (f = 2 ∨ f = 38 ∨ f = 39) → ∀ j, S' f j = S f j) (a : IG S B) : IG S' B := by
  intro c h0 h1
  rw [h 2 (by omega)] at h1
  rw [h 38 (by omega), h 39 (by omega)]
  exact a c h0 h1
theorem IG_le {S : S9} {B C : Int} (h : B ≤ C) (a : IG S B) : IG S C := fun c h0 h1 => by
  have := a c h0 h1
  omega
theorem rowsS_28 {S : S9} {s t : Int} : rowsS S s 28 t = S 28 t ∨ rowsS S s 28 t = S 28 t + 1 := by
  unfold rowsS
  split
  · rw [up_at]
    split
    · rename_i e
      rw [e]
      exact Or.inr rfl
    · rw [up_f (by omega), up_f (by omega)]
      exact Or.inl rfl
  · split
    · unfold cpyI
      rw [if_neg (by omega), up_f (by omega), up_f (by omega)]
      exact Or.inl rfl
    · rw [up_f (by omega)]
      exact Or.inl rfl
theorem rowsS_IB {S : S9} {s B : Int} (h : IB S B) : IB (rowsS S s) (B + 1) := by
  refine ⟨IG_ag (fun f hf j => rowsS_f (by omega)) (IG_le (by omega) h.1), fun t t0 t1 => ?_, fun c c0 c1 => ?_⟩
  · have := h.2.1 t t0 t1
    have h8 := rowsS_28 (S := S) (s := s) (t := t)
    rw [rowsS_f (f := 32) (by omega), rowsS_f (f := 33) (by omega)]
    omega
  · rw [rowsS_f (by omega)] at c1
    rw [rowsS_f (f := 36) (by omega), rowsS_f (f := 37) (by omega)]
    exact h.2.2 c c0 c1
theorem rowsN_IB {S : S9} {B : Int} (h : IB S B) : ∀ n : Nat, IB (rowsN S n) (B + n)
  | 0 => by
    rw [show B + ((0 : Nat) : Int) = B by omega]
    exact h
  | n + 1 => by
    unfold rowsN
    rw [show B + ((n + 1 : Nat) : Int) = B + (n : Int) + 1 by omega]
    exact rowsS_IB (rowsN_IB h n)
theorem befS_IB {S : S9} {B : Int} (hJ : JJ S) (h : IB S B) : IB (befS S) (B + 4) := by
  have h1 := rowsN_IB h (S 1 0).toNat
  have h4 := hJ.1.2.1
  refine ⟨IG_ag (fun f hf j => befS_f (by omega)) (IG_le (by omega) h.1), fun t t0 t1 => ?_, fun c c0 c1 => ?_⟩
  · have := h1.2.1 t t0 t1
    unfold befS
    rw [monI_f (f := 28) (by omega), monI_f (f := 32) (by omega), monI_f (f := 33) (by omega)]
    omega
  · rw [befS_f (by omega)] at c1
    have := h.2.2 c c0 c1
    rw [befS_f (f := 36) (by omega)]
    unfold befS
    have e37 : monI (rowsN S (S 1 0).toNat) (S 2 0) 37 c = if 60 < S 37 c + S 36 c then 60 else S 37 c + S 36 c := by
      unfold monI
      rw [if_pos ⟨rfl, c0, c1⟩, rowsN_f (by omega), rowsN_f (by omega)]
    rw [e37]
    split <;> omega
theorem sendS_37 {S : S9} {c d : Int} (h : 0 ≤ S 37 d ∧ S 37 d ≤ 60) (hc : 0 ≤ S 37 c ∧ S 37 c ≤ 60) (hk : 0 ≤ (bstC S c).2.1) : 0 ≤ sendS S c 37 d ∧ sendS S c 37 d ≤ 60 := by
  unfold sendS payS
  rw [chgS_f (by omega), up_at]
  split
  · split <;> omega
  · exact h
theorem lineS_IB : ∀ {S : S9} {B : Int}, JJ S → IB S B → ∀ (left : Int) (u : Nat), IB (lineS S left u).1 B
  | S, B, hJ, h, left, 0 => h
  | S, B, hJ, h, left, u + 1 => by
    rw [lineS_s]
    split
    · exact h
    · rename_i e
      rcases chN_in S left (S 2 0).toNat with z | z
      · omega
      · have hn := hJ.1.2.2.1
        have hk := bstC_ok z.2.2.1
        refine lineS_IB (S := sendS S (chN S left (S 2 0).toNat)) (JJ_ag (fun f hf j => sendS_f (by unfold jF at hf; omega)) hJ) ⟨IG_ag (fun f hf j => sendS_f (by omega)) h.1, fun t t0 t1 => ?_, fun c c0 c1 => ?_⟩ _ u
        · rw [sendS_f (f := 28) (by omega), sendS_f (f := 32) (by omega), sendS_f (f := 33) (by omega)]
          exact h.2.1 t t0 t1
        · rw [sendS_f (by omega)] at c1
          rw [sendS_f (f := 36) (by omega)]
          have h2 := h.2.2 c c0 c1
          have h3 := h.2.2 (chN S left (S 2 0).toNat) z.1 (by omega)
          have h4 := sendS_37 (S := S) (c := chN S left (S 2 0).toNat) (d := c) ⟨h2.2.2.1, h2.2.2.2⟩ ⟨h3.2.2.1, h3.2.2.2⟩ (by omega)
          exact ⟨h2.1, h2.2.1, h4.1, h4.2⟩
theorem recS_IB {S : S9} {s B : Int} (h : IB S B) : IB (recS S s) B := by
  refine ⟨IG_ag (fun f hf j => recS_f (by omega)) h.1, fun t t0 t1 => ?_, fun c c0 c1 => ?_⟩
  · have h1 := h.2.1 t t0 t1
    rw [recS_f (f := 28) (by omega)]
    unfold recS
    split
    · rename_i e
      rw [up_at, up_f (show (33 : Nat) ≠ 32 by decide)]
      have e33 : lokI S s 96 33 t = if t = s then S 33 s + sg (fun p => b2 (itsL S s p ≠ oldL S s p)) (96 : Int).toNat else S 33 t := by
        by_cases z : t = s
        · rw [if_pos z, z, lokI_33]
        · rw [if_neg z]
          unfold lokI
          rw [if_neg (by omega), if_neg (by omega)]
      have cc := sg_in1 (f := fun p => b2 (itsL S s p ≠ oldL S s p)) (fun _ _ => b2_le) 96 (by decide)
      rw [e33, lokI_f (f := 32) (by omega)]
      by_cases z : t = s
      · subst z
        rw [if_pos rfl, if_pos rfl]
        have : S 32 t ≠ 60 := e.2
        omega
      · rw [if_neg z, if_neg z]
        exact h1
    · exact h1
  · rw [recS_f (by omega)] at c1
    rw [recS_f (f := 36) (by omega), recS_f (f := 37) (by omega)]
    exact h.2.2 c c0 c1
theorem doK_IB {S : S9} {s B : Int} (hJ : JJ S) (h0 : 0 ≤ s) (h1 : s < 4) (h : IB S B) : IB (doK S s) (B + 20) := by
  have hb := hJ.1.2.2.2.2 s h0 h1
  have hg := keyN_IG (s := s) h.1 (S 17 s).toNat
  refine ⟨?_, fun t t0 t1 => ?_, fun c c0 c1 => ?_⟩
  · unfold doK
    exact IG_ag (fun f hf j => up_f (by omega)) (IG_le (by omega) hg)
  · rw [doK_f (f := 28) (by omega), doK_f (f := 32) (by omega), doK_f (f := 33) (by omega)]
    have := h.2.1 t t0 t1
    omega
  · rw [doK_f (by omega)] at c1
    rw [doK_f (f := 36) (by omega), doK_f (f := 37) (by omega)]
    exact h.2.2 c c0 c1
theorem IB_le {S : S9} {B C : Int} (h : B ≤ C) (a : IB S B) : IB S C := ⟨IG_le h a.1, fun t t0 t1 => by have := a.2.1 t t0 t1; omega, a.2.2⟩
theorem sesS_IB {S : S9} {s B : Int} (hJ : JJ S) (h0 : 0 ≤ s) (h1 : s < 4) (h : IB S B) : IB (sesS S s) (B + 20) := by
  unfold sesS
  split
  · exact recS_IB (IB_le (by omega) h)
  · exact recS_IB (doK_IB hJ h0 h1 h)
theorem sesN_IB {S : S9} {B : Int} (hJ : JJ S) (h : IB S B) : ∀ n : Nat, n ≤ 4 → IB (sesN S n) (B + 20 * n)
  | 0, _ => by
    rw [show B + 20 * ((0 : Nat) : Int) = B by omega]
    exact h
  | n + 1, hn => by
    unfold sesN
    rw [show B + 20 * ((n + 1 : Nat) : Int) = B + 20 * (n : Int) + 20 by omega]
    exact sesS_IB (sesN_JJ hJ n (by omega)) (by omega) (by omega) (sesN_IB hJ h n (by omega))
theorem tik1_IB {S : S9} {B : Int} (hJ : JJ S) (h : IB S B) : IB (tik1 S) (B + 100) := by
  unfold tik1
  have h1 := hJ.1.2.1
  have h2 := sesN_IB (lineS_JJ (befS_JJ hJ) 24 24) (lineS_IB (befS_JJ hJ) (befS_IB hJ h) 24 24) (S 1 0).toNat (by omega)
  exact IB_le (by omega) h2
theorem tikN_IB {S : S9} {B : Int} (hJ : JJ S) (h : IB S B) : ∀ n : Nat, IB (tikN S n) (B + 100 * n)
  | 0 => by
    rw [show B + 100 * ((0 : Nat) : Int) = B by omega]
    exact h
  | n + 1 => by
    rw [tikN_s, show B + 100 * ((n + 1 : Nat) : Int) = B + 100 * (n : Int) + 100 by omega]
    exact tik1_IB (tikN_JJ hJ n) (tikN_IB hJ h n)
