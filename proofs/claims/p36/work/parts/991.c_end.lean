/-! p36: moves that end, keys that are done, the last ticks -/
theorem isLN_cg {S S' : S9} {s r : Int} (e1 : S' 29 (8 * s + r) = S 29 (8 * s + r)) (e2 : ∀ i, 0 ≤ i → i < 12 → S' 30 (96 * s + (r * 12 + i)) = S 30 (96 * s + (r * 12 + i))) (e3 : ∀ p, screenAt S' s p = screenAt S s p) : ∀ n : Nat, n ≤ 12 → isLN S' s r n = isLN S s r n
  | 0, _ => by
    unfold isLN
    rw [e1]
  | n + 1, h => by
    rw [isLN_s, isLN_s, isLN_cg e1 e2 e3 n (by omega), e2 n (by omega) (by omega), e3]
theorem cntL_cg {S S' : S9} {s : Int} (e1 : ∀ r, 0 ≤ r → r < 8 → S' 29 (8 * s + r) = S 29 (8 * s + r)) (e2 : ∀ i, 0 ≤ i → i < 96 → S' 30 (96 * s + i) = S 30 (96 * s + i)) (e3 : ∀ p, screenAt S' s p = screenAt S s p) : cntL S' s = cntL S s := by
  unfold cntL
  exact sg_eq _ (fun r r0 r1 => isLN_cg (e1 r (by omega) (by omega)) (fun i i0 i1 => e2 _ (by omega) (by omega)) e3 12 (Nat.le_refl _))
theorem fndN_one {S : S9} {s : Int} : ∀ d : Nat, 0 ≤ fndN S s d → isL S s (fndN S s d) = 1
  | 0, h => by unfold fndN at h; omega
  | d + 1, h => by
    rw [fndN_s] at h ⊢
    split
    · assumption
    · rename_i z
      rw [if_neg z] at h
      exact fndN_one d h
theorem frsN_not {S : S9} {s : Int} : ∀ d : Nat, 0 ≤ frsN S s d → ¬ S 29 (8 * s + frsN S s d) = 1
  | 0, h => by unfold frsN at h; omega
  | d + 1, h => by
    rw [frsN_s] at h ⊢
    split
    · rename_i z
      rw [if_pos z] at h
      exact frsN_not d h
    · assumption
theorem rowN_one {S : S9} {s : Int} (h : 2 < cntL S s) : isL S s (rowN S s) = 1 := by
  have hr := rowN_in h
  unfold rowN at hr ⊢
  split
  · rename_i z
    rw [isL_ot]
    exact b2_t (Or.inl (frsN_not 8 z))
  · rename_i z
    rw [if_neg z] at hr
    exact fndN_one 8 hr.1
theorem cpy_scr {S : S9} {s r n t p : Int} : screenAt (cpyI S s r n) t p = screenAt S t p := screenAt_ag (fun f h5 h6 => by
  intro j
  unfold cpyI
  rw [if_neg (by omega)]) t p
theorem row_scr {S : S9} {s t p : Int} : screenAt (rowsS S s) t p = screenAt S t p := screenAt_ag (fun f h5 h6 => fun j => rowsS_f (by omega)) t p
/-- a row copied is left no more -/
theorem cpy_0 {S : S9} {s r : Int} (h : S 29 (8 * s + r) = 1) : ∀ n : Nat, n ≤ 12 → isLN (cpyI S s r 12) s r n = 0
  | 0, _ => by
    unfold isLN
    refine b2_f (fun z => z ?_)
    unfold cpyI
    rw [if_neg (by omega)]
    exact h
  | n + 1, hn => by
    rw [isLN_s, cpy_0 h n (by omega), cpy_scr]
    refine b2_f (fun z => ?_)
    rcases z with z | z
    · omega
    · refine z ?_
      unfold cpyI
      rw [if_pos (by omega), show 96 * s + (r * 12 + (n : Int)) - 96 * s = r * 12 + n by omega]
theorem rowsS_mv {S : S9} {s : Int} (h : rowsS S s 26 s = 1) : S 26 s = 1 ∧ 2 < cntL S s ∧ cntL (rowsS S s) s ≤ cntL S s - 1 := by
  have hr := h
  unfold rowsS at hr
  split at hr
  · rename_i z
    rw [up_f (by decide), up_eq] at hr
    omega
  · rename_i z
    split at hr
    · rename_i z2
      have hc : 2 < cntL S s := by
        rcases Int.lt_or_le 2 (cntL S s) with y | y
        · exact y
        · exact absurd ⟨z2, y⟩ z
      refine ⟨z2, hc, ?_⟩
      have e : rowsS S s = cpyI (up (up S 27 s 0) 29 (8 * s + rowN S s) 1) s (rowN S s) 12 := by
        unfold rowsS
        rw [if_neg z, if_pos z2]
      have h1 := rowN_in hc
      have h2 := rowN_one hc
      rw [e]
      generalize rowN S s = r9 at h1 h2 ⊢
      have e3 : ∀ p, screenAt (cpyI (up (up S 27 s 0) 29 (8 * s + r9) 1) s r9 12) s p = screenAt S s p := fun p => by
        rw [cpy_scr]
        exact screenAt_ag (fun f h5 h6 j => by rw [up_f (by omega), up_f (by omega)]) s p
      have e1 := sg_at (f := fun r => isL (cpyI (up (up S 27 s 0) 29 (8 * s + r9) 1) s r9 12) s r) (g := fun r => if r = r9 ∨ (0 ≤ r ∧ r < 8) then isL S s r else isL (cpyI (up (up S 27 s 0) 29 (8 * s + r9) 1) s r9 12) s r) (q := r9) (fun i hi => by
        show _ = if _ then _ else _
        split
        · rename_i y
          refine isLN_cg ?_ (fun k k0 k1 => ?_) e3 12 (Nat.le_refl _)
          · unfold cpyI
            rw [if_neg (by omega), up_i (by omega), up_f (by decide)]
          · unfold cpyI
            rw [if_neg (by omega), up_f (by decide), up_f (by decide)]
        · rfl) 8 h1.1
      rw [if_pos (by omega)] at e1
      have e4 : isL (cpyI (up (up S 27 s 0) 29 (8 * s + r9) 1) s r9 12) s r9 = 0 := cpy_0 up_eq 12 (Nat.le_refl _)
      have e5 : sg (fun r => if r = r9 ∨ (0 ≤ r ∧ r < 8) then isL S s r else isL (cpyI (up (up S 27 s 0) 29 (8 * s + r9) 1) s r9 12) s r) 8 = cntL S s := sg_eq _ (fun i i0 i1 => if_pos (Or.inr ⟨by omega, by omega⟩))
      have e6 : cntL (cpyI (up (up S 27 s 0) 29 (8 * s + r9) 1) s r9 12) s = sg (fun r => isL (cpyI (up (up S 27 s 0) 29 (8 * s + r9) 1) s r9 12) s r) 8 := rfl
      rw [e6, e1, e5]
      simp only [true_or, if_true]
      omega
    · rename_i z2
      rw [up_f (by decide)] at hr
      exact absurd hr z2
/-- the rows copied in a tick, as one session sees them -/
theorem rowsN_mv {S : S9} {s : Int} (s0 : 0 ≤ s) : ∀ n : Nat, (n ≤ s → rowsN S n 26 s = S 26 s ∧ cntL (rowsN S n) s = cntL S s) ∧ (s < n → rowsN S n 26 s = 1 → S 26 s = 1 ∧ 2 < cntL S s ∧ cntL (rowsN S n) s ≤ cntL S s - 1)
  | 0 => ⟨fun _ => ⟨rfl, rfl⟩, fun h => by omega⟩
  | n + 1 => by
    have ih := rowsN_mv (S := S) s0 n
    rw [rowsN_s]
    have ho : ∀ t : Int, t ≠ s → rowsS (rowsN S n) t 26 s = rowsN S n 26 s ∧ cntL (rowsS (rowsN S n) t) s = cntL (rowsN S n) s := fun t ht => ⟨rowsS_e 26 s (by unfold inS; omega), cntL_cg (fun r r0 r1 => rowsS_e 29 _ (by unfold inS; omega)) (fun i i0 i1 => rowsS_e 30 _ (by unfold inS; omega)) (fun p => row_scr)⟩
    refine ⟨fun h => ?_, fun h hm => ?_⟩
    · have h1 := ho n (by omega)
      have h2 := ih.1 (by omega)
      exact ⟨h1.1.trans h2.1, h1.2.trans h2.2⟩
    · by_cases e : s = n
      · have h2 := ih.1 (by omega)
        have h3 := rowsS_mv (S := rowsN S n) (s := s) (by rw [e] at hm ⊢; exact hm)
        rw [h2.1, h2.2] at h3
        rw [e] at h3 ⊢
        exact h3
      · have h1 := ho n (fun z => e z.symm)
        rw [h1.1] at hm
        rw [h1.2]
        exact ih.2 (by omega) hm
theorem tik_26 {S : S9} {s : Int} : tik1 S 26 s = rowsN S (S 1 0).toNat 26 s := by
  unfold tik1 befS
  rw [sesN_f (by decide), lineS_f (by decide), monI_f (by decide)]
/-- a move in a tick -/
theorem tik_mv {S : S9} {s : Int} (hs : isS S s) (h : tik1 S 26 s = 1) : S 26 s = 1 ∧ 2 < cntL S s ∧ cntL (rowsN S (S 1 0).toNat) s ≤ cntL S s - 1 := by
  rw [tik_26] at h
  exact (rowsN_mv hs.1 _).2 (by have := hs.2; have := hs.1; omega) h
theorem tik_isS {S : S9} {s : Int} (h : isS S s) : isS (tik1 S) s := by
  unfold isS
  rw [tik1_f (by omega)]
  exact h
theorem tikN_mv {S : S9} {s : Int} (hs : isS S s) (h : S 26 s = 1 → cntL S s ≤ 2) : ∀ n : Nat, 1 ≤ n → tikN S n 26 s ≠ 1
  | 0, h1 => by omega
  | n + 1, _ => by
    rw [tikN_s]
    intro z
    have hs2 : isS (tikN S n) s := by
      unfold isS
      rw [tikN_f (by omega)]
      exact hs
    have y := tik_mv hs2 z
    by_cases e : n = 0
    · subst e
      have y2 : S 26 s = 1 ∧ 2 < cntL S s := ⟨y.1, y.2.1⟩
      have := h y2.1
      omega
    · exact tikN_mv hs h n (by omega) y.1
/-- a session's end of a tick, as another one sees it -/
theorem ses_17 {S : S9} {s t : Int} : sesS S s 17 t = if t = s ∧ ¬ S 27 s = 1 then 0 else S 17 t := by
  unfold sesS
  rw [recS_f (by decide)]
  by_cases z : S 27 s = 1
  · rw [if_pos z, if_neg (fun y => y.2 z)]
  · rw [if_neg z]
    unfold doK
    rw [up_at]
    by_cases e : t = s
    · rw [if_pos e, if_pos ⟨e, z⟩]
    · rw [if_neg e, if_neg (fun y => e y.1), keyN_f (by decide)]
theorem sesN_17 {S : S9} {s : Int} (s0 : 0 ≤ s) : ∀ n : Nat, (n ≤ s → sesN S n 17 s = S 17 s) ∧ (s < n → sesN S n 17 s = if S 27 s = 1 then S 17 s else 0)
  | 0 => ⟨fun _ => rfl, fun h => by omega⟩
  | n + 1 => by
    have ih := sesN_17 (S := S) s0 n
    rw [sesN_s, ses_17, sesN_f (by decide)]
    refine ⟨fun h => ?_, fun h => ?_⟩
    · rw [if_neg (by omega)]
      exact ih.1 (by omega)
    · by_cases e : s = n
      · have h2 := ih.1 (by omega)
        rw [h2, ← e]
        by_cases z : S 27 s = 1
        · rw [if_neg (fun y => y.2 z), if_pos z]
        · rw [if_pos ⟨rfl, z⟩, if_neg z]
      · rw [if_neg (fun y => e y.1)]
        exact ih.2 (by omega)
theorem rowsN_h27 {S : S9} {s : Int} (s0 : 0 ≤ s) : ∀ n : Nat, s < n → rowsN S n 27 s = 1 → rowsN S n 26 s ≠ 1 ∧ S 26 s = 1
  | 0, h => by omega
  | n + 1, h => by
    intro hm
    rw [rowsN_s] at hm ⊢
    by_cases e : s = n
    · have h2 := (rowsN_mv (S := S) s0 n).1 (by omega)
      rw [e] at hm ⊢
      rw [rowsS_h27] at hm
      have h3 : rowsN S n 26 n = 1 ∧ cntL (rowsN S n) n ≤ 2 := by
        rcases b2_01 (p := rowsN S n 26 n = 1 ∧ cntL (rowsN S n) n ≤ 2) with y | y
        · omega
        · exact Decidable.byContradiction (fun w => by rw [b2_f w] at hm; omega)
      refine ⟨fun z => ?_, by rw [e] at h2; exact h2.1.symm.trans h3.1⟩
      have h4 := rowsS_mv z
      omega
    · rw [rowsS_e 27 s (by unfold inS; omega)] at hm
      rw [rowsS_e 26 s (by unfold inS; omega)]
      exact rowsN_h27 s0 n (by omega) hm
theorem tik_17 {S : S9} {s : Int} (hs : isS S s) : tik1 S 17 s = if rowsN S (S 1 0).toNat 27 s = 1 then S 17 s else 0 := by
  have h := (sesN_17 (S := (lineS (befS S) 24 24).1) hs.1 (S 1 0).toNat).2 (by have := hs.2; have := hs.1; omega)
  have e1 : tik1 S 17 s = sesN (lineS (befS S) 24 24).1 (S 1 0).toNat 17 s := rfl
  have e2 : (lineS (befS S) 24 24).1 27 s = rowsN S (S 1 0).toNat 27 s := by
    rw [lineS_f (by decide)]
    unfold befS
    rw [monI_f (by decide)]
  have e3 : (lineS (befS S) 24 24).1 17 s = S 17 s := by rw [lineS_f (by decide), befS_f (by decide)]
  rw [e1, h, e2, e3]
/-- where no key waits, a tick's end changes no window -/
theorem quiet_ses {S : S9} {s j : Int} {f : Nat} (h : S 17 s = 0) (hf : f ≠ 17 ∧ f ≠ 32 ∧ f ≠ 33 ∧ f ≠ 34) : sesS S s f j = S f j := by
  unfold sesS
  rw [recS_f (by omega)]
  split
  · rfl
  · unfold doK
    rw [up_f (by omega), h]
    rfl
theorem quiet_sesN {S : S9} : ∀ n : Nat, (∀ s, 0 ≤ s → s < n → S 17 s = 0) → ∀ f, (f ≠ 17 ∧ f ≠ 32 ∧ f ≠ 33 ∧ f ≠ 34) → ∀ j, sesN S n f j = S f j
  | 0, _, f, hf, j => rfl
  | n + 1, h, f, hf, j => by
    rw [sesN_s, quiet_ses ?_ hf]
    · exact quiet_sesN n (fun s s0 s1 => h s s0 (by omega)) f hf j
    · rw [(sesN_17 (S := S) (s := (n : Int)) (by omega) n).1 (Int.le_refl _)]
      exact h n (by omega) (by omega)
/-- n quiet ticks went by -/
def EN (n : Int) (S : S9) : Prop := (∀ s, isS S s → S 17 s = 0) ∧ (allB S = 0 ∨ allB S + 5 * n ≤ 576 ∨ (allB S + 5 * n ≤ 577 ∧ dear S)) ∧ ∀ s, isS S s → S 26 s = 1 → cntL S s + n ≤ 8
theorem bef_see {S : S9} : seeS S (befS S) := fun f hf j => befS_f (by omega)
theorem EN_tick {S : S9} {n : Int} (hJ : JJ S) (a : EN n S) : EN (n + 1) (tik1 S) := by
  obtain ⟨a1, a2, a3⟩ := a
  have h10 := hJ.1.1
  have h20 := hJ.1.2.2.1
  have h26 := hJ.1.2.2.2.1
  have hq : ∀ f, (f ≠ 17 ∧ f ≠ 32 ∧ f ≠ 33 ∧ f ≠ 34) → ∀ j, tik1 S f j = (lineS (befS S) 24 24).1 f j := quiet_sesN (S := (lineS (befS S) 24 24).1) (S 1 0).toNat (fun s s0 s1 => by
    rw [lineS_f (by decide), befS_f (by decide)]
    exact a1 s ⟨by omega, by omega⟩)
  have hs1 : seeS (lineS (befS S) 24 24).1 (tik1 S) := fun f hf j => hq f (by omega) j
  have e1 : allB (tik1 S) = allB (lineS (befS S) 24 24).1 := see_all hs1
  have e2 : allB (befS S) = allB S := see_all bef_see
  have hb0 : befS S 2 0 = S 2 0 := befS_f (by decide)
  have hl := line_all 24 (S := befS S) 24 (by rw [hb0]; exact h20)
  have hin := allB_in (S := tik1 S) (by rw [tik1_f (by omega)]; exact h20) (by rw [tik1_f (by omega)]; exact h26)
  refine ⟨fun s hs => ?_, ?_, fun s hs hm => ?_⟩
  · unfold isS at hs
    rw [tik1_f (by omega)] at hs
    rw [tik_17 hs, a1 s hs]
    split <;> rfl
  · by_cases hz : allB S = 0
    · left
      omega
    · have hin0 := allB_in (S := S) h20 h26
      have ht := line_tick (S := befS S) (by rw [hb0]; exact h20) (by omega)
      rcases a2 with y | y | ⟨y, yd⟩
      · omega
      · rcases ht.1 with z | z | ⟨z, zd⟩
        · exact Or.inr (Or.inl (by omega))
        · exact Or.inl (by omega)
        · exact Or.inr (Or.inr ⟨by omega, see_dear hs1 zd⟩)
      · have z := ht.2.1 (see_dear bef_see yd)
        exact Or.inr (Or.inl (by omega))
  · unfold isS at hs
    rw [tik1_f (by omega)] at hs
    have y := tik_mv hs hm
    have y3 := a3 s hs y.1
    have hr : ∀ f, (f = 29 ∨ f = 30) → ∀ j, tik1 S f j = rowsN S (S 1 0).toNat f j := fun f hf j => by
      unfold tik1 befS
      rw [sesN_f (by omega), lineS_f (by omega), monI_f (by omega)]
    have e3 : cntL (tik1 S) s = cntL (rowsN S (S 1 0).toNat) s := cntL_cg (fun r _ _ => hr 29 (by omega) _) (fun i _ _ => hr 30 (by omega) _) (fun p => screenAt_ag (fun f h5 h6 j => by
      rw [hq f (by omega), lineS_f (by omega), befS_f (by omega), rowsN_f (by omega)]) s p)
    omega
theorem EN_ag {S T : S9} {n : Int} (e : ∀ f, f ≠ 3 → ∀ j, T f j = S f j) (a : EN n S) : EN n T := by
  have hs : seeS S T := fun f hf j => e f (by omega) j
  obtain ⟨a1, a2, a3⟩ := a
  refine ⟨fun s h => ?_, ?_, fun s h hm => ?_⟩
  · unfold isS at h
    rw [e 1 (by decide)] at h
    rw [e 17 (by decide)]
    exact a1 s h
  · rw [see_all hs]
    rcases a2 with y | y | ⟨y, yd⟩
    · exact Or.inl y
    · exact Or.inr (Or.inl y)
    · exact Or.inr (Or.inr ⟨y, see_dear hs yd⟩)
  · unfold isS at h
    rw [e 1 (by decide)] at h
    rw [e 26 (by decide)] at hm
    rw [cntL_cg (fun r _ _ => e 29 (by decide) _) (fun i _ _ => e 30 (by decide) _) (fun p => see_scr hs s p)]
    exact a3 s h hm
/-- so many ticks of the end went by -/
def ES (k : Int) (S : S9) : Prop := k = 0 ∨ (k = 1 ∧ ∀ s, isS S s → S 17 s = 0 ∨ S 26 s ≠ 1) ∨ (2 ≤ k ∧ EN (k - 2) S)
theorem ES_tik {S : S9} {k : Int} (hJ : JJ S) (a : ES k S) : ES (k + 1) (tik1 S) := by
  rcases a with a | ⟨a, a1⟩ | ⟨a, a1⟩
  · subst a
    refine Or.inr (Or.inl ⟨rfl, fun s hs => ?_⟩)
    unfold isS at hs
    rw [tik1_f (by omega)] at hs
    rw [tik_17 hs, tik_26]
    split
    · rename_i z
      exact Or.inr (rowsN_h27 hs.1 _ (by have := hs.2; have := hs.1; omega) z).1
    · exact Or.inl rfl
  · subst a
    refine Or.inr (Or.inr ⟨by decide, fun s hs => ?_, Or.inr (Or.inl ?_), fun s hs hm => ?_⟩)
    · unfold isS at hs
      rw [tik1_f (by omega)] at hs
      rw [tik_17 hs]
      split
      · rename_i z
        rcases a1 s hs with y | y
        · exact y
        · exact absurd (rowsN_h27 hs.1 _ (by have := hs.2; have := hs.1; omega) z).2 y
      · rfl
    · have := allB_in (S := tik1 S) (by rw [tik1_f (by omega)]; exact hJ.1.2.2.1) (by rw [tik1_f (by omega)]; exact hJ.1.2.2.2.1)
      omega
    · have := cntL_in (S := tik1 S) (s := s)
      omega
  · refine Or.inr (Or.inr ⟨by omega, ?_⟩)
    have := EN_tick hJ a1
    rw [show k + 1 - 2 = k - 2 + 1 by omega]
    exact this
theorem ES_tikN {S : S9} {k : Int} (hJ : JJ S) (a : ES k S) : ∀ n : Nat, ES (k + n) (tikN S n)
  | 0 => by
    rw [show k + ((0 : Nat) : Int) = k by omega]
    exact a
  | n + 1 => by
    rw [tikN_s, show k + ((n + 1 : Nat) : Int) = k + n + 1 by omega]
    exact ES_tik (tikN_JJ hJ n) (ES_tikN hJ a n)
theorem ES_ag {S T : S9} {k : Int} (e : ∀ f, f ≠ 3 → ∀ j, T f j = S f j) (a : ES k S) : ES k T := by
  rcases a with a | ⟨a, a1⟩ | ⟨a, a1⟩
  · exact Or.inl a
  · refine Or.inr (Or.inl ⟨a, fun s h => ?_⟩)
    unfold isS at h
    rw [e 1 (by decide)] at h
    rw [e 17 (by decide), e 26 (by decide)]
    exact a1 s h
  · exact Or.inr (Or.inr ⟨a, EN_ag e a1⟩)
theorem ES_tikS {S : S9} {k : Int} (hJ : JJ S) (a : ES k S) : ES (k + 20) (tikS S 20) := ES_ag (S := tikN S 20) (fun f hf j => up_f hf) (ES_tikN hJ a 20)
/-- the end -/
theorem ES_end {S : S9} (hJ : JJ S) (a : ES 120 S) : (∀ c, isC S c → cntB S c = 0 ∧ gues S c = 0) ∧ ∀ s, isS S s → S 26 s ≠ 1 := by
  rcases a with a | ⟨a, -⟩ | ⟨-, a1, a2, a3⟩
  · omega
  · omega
  · have hin := allB_in (S := S) hJ.1.2.2.1 hJ.1.2.2.2.1
    have hz : allB S = 0 := by
      rcases a2 with y | y | ⟨y, -⟩
      · exact y
      · omega
      · omega
    refine ⟨fun c hc => ⟨all_zero hz c hc, ?_⟩, fun s hs hm => ?_⟩
    · have hcs := hJ.2.2.2.1 c hc.1 hc.2
      unfold gues
      rw [a1 (S 35 c) hcs]
      rfl
    · have y := a3 s hs hm
      have y2 := cntL_in (S := S) (s := s)
      omega
/-- what a tick carries -/
theorem tikV_pos {S : S9} {c : Int} (hJ : JJ S) (hc : isC S c) (hb : 0 < cntB S c) : ∀ n : Nat, 1 ≤ n → 0 < tikV S n
  | 0, h => by omega
  | n + 1, _ => by
    have h20 := hJ.1.2.2.1
    rw [tikV_s]
    by_cases e : n = 0
    · subst e
      have hin := allB_in (S := S) h20 hJ.1.2.2.2.1
      have hp : 0 < allB S := by
        rcases Int.lt_or_le 0 (allB S) with y | y
        · exact y
        · have := all_zero (S := S) (by omega) c hc
          omega
      have ht := line_tick (S := befS S) (by rw [befS_f (by decide)]; exact h20) (by rw [see_all bef_see]; exact hp)
      show 0 < 0 + (24 - (lineS (befS S) 24 24).2)
      omega
    · have ih := tikV_pos hJ hc hb n (by omega)
      have h1 := lineS_in 24 (befS (tikN S n)) 24 (by decide)
      unfold tikU
      omega
/-- a recording's first tick stays what it was -/
theorem ses_34 {S : S9} {s q j : Int} (hb : 0 ≤ S 32 s ∧ S 32 s ≤ 60) (q0 : 1 ≤ S 32 q) (j0 : 0 ≤ j) (j1 : j < 96) : sesS S s 34 (60 * q * 96 + j) = S 34 (60 * q * 96 + j) ∧ S 32 q ≤ sesS S s 32 q := by
  have e : sesS S s = recS (if S 27 s = 1 then S else doK S s) s := rfl
  rw [e]
  have e2 : ∀ f, (f = 31 ∨ f = 32 ∨ f = 34) → ∀ i, (if S 27 s = 1 then S else doK S s) f i = S f i := fun f hf i => by
    split
    · rfl
    · exact doK_f (by omega)
  generalize (if S 27 s = 1 then S else doK S s) = T at e2 ⊢
  unfold recS
  split
  · rename_i z
    rw [e2 31 (by omega), e2 32 (by omega)] at z
    rw [up_f (by decide), up_at, lokI_f (f := 32) (by decide), e2 32 (by omega), e2 32 (by omega)]
    refine ⟨?_, ?_⟩
    · unfold lokI
      rw [e2 32 (by omega)]
      by_cases y : s = q
      · subst y
        rw [if_neg (by omega), if_neg (by omega)]
        exact e2 34 (by omega) _
      · have hz : S 32 s ≠ 60 := z.2
        rw [if_neg (by omega), if_neg (by omega)]
        exact e2 34 (by omega) _
    · split
      · rename_i y
        rw [y]
        omega
      · omega
  · exact ⟨e2 34 (by omega) _, by rw [e2 32 (by omega)]; omega⟩
theorem sesN_34 {S : S9} {q j B : Int} (hJ : JJ S) (hB : IB S B) (q0 : 1 ≤ S 32 q) (j0 : 0 ≤ j) (j1 : j < 96) : ∀ n : Nat, n ≤ 4 → sesN S n 34 (60 * q * 96 + j) = S 34 (60 * q * 96 + j) ∧ S 32 q ≤ sesN S n 32 q
  | 0, _ => ⟨rfl, Int.le_refl _⟩
  | n + 1, h => by
    have ih := sesN_34 hJ hB q0 j0 j1 n (by omega)
    have hb := (sesN_IB hJ hB n (by omega)).2.1 n (by omega) (by omega)
    have h1 := ses_34 (S := sesN S n) (s := n) (q := q) (j := j) ⟨hb.2.2.1, hb.2.2.2.1⟩ (by omega) j0 j1
    rw [sesN_s]
    exact ⟨h1.1.trans ih.1, by omega⟩
theorem tik_34 {S : S9} {q j B : Int} (hJ : JJ S) (hB : IB S B) (q0 : 1 ≤ S 32 q) (j0 : 0 ≤ j) (j1 : j < 96) : tik1 S 34 (60 * q * 96 + j) = S 34 (60 * q * 96 + j) ∧ S 32 q ≤ tik1 S 32 q := by
  have h1 := hJ.1.2.1
  have e : ∀ f, (f = 32 ∨ f = 34) → ∀ i, (lineS (befS S) 24 24).1 f i = S f i := fun f hf i => by rw [lineS_f (by omega), befS_f (by omega)]
  have h2 := sesN_34 (S := (lineS (befS S) 24 24).1) (q := q) (j := j) (lineS_JJ (befS_JJ hJ) 24 24) (lineS_IB (befS_JJ hJ) (befS_IB hJ hB) 24 24) (by rw [e 32 (by omega)]; exact q0) j0 j1 (S 1 0).toNat (by omega)
  rw [e 34 (by omega), e 32 (by omega)] at h2
  exact h2
theorem tikN_34 {S : S9} {q j B : Int} (hJ : JJ S) (hB : IB S B) (q0 : 1 ≤ S 32 q) (j0 : 0 ≤ j) (j1 : j < 96) : ∀ n : Nat, tikN S n 34 (60 * q * 96 + j) = S 34 (60 * q * 96 + j) ∧ S 32 q ≤ tikN S n 32 q
  | 0 => ⟨rfl, Int.le_refl _⟩
  | n + 1 => by
    have ih := tikN_34 hJ hB q0 j0 j1 n
    have h1 := tik_34 (S := tikN S n) (q := q) (j := j) (tikN_JJ hJ n) (tikN_IB hJ hB n) (by omega) j0 j1
    rw [tikN_s]
    exact ⟨h1.1.trans ih.1, by omega⟩
