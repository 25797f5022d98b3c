/-! keys done, rows copied, looks -/
theorem placeOf_ag2 {S S' : S9} (h : ∀ f, 5 ≤ f → f ≤ 8 → ∀ j, S' f j = S f j) (w c : Int) : placeOf S' w c = placeOf S w c := by
  unfold placeOf
  rw [h 5 (by omega) (by omega), h 6 (by omega) (by omega), h 7 (by omega) (by omega)]
def IG (S : S9) (B : Int) : Prop := ∀ c, 0 ≤ c → c < S 2 0 → 0 ≤ S 38 c ∧ S 38 c ≤ B ∧ 0 ≤ S 39 c ∧ S 39 c ≤ B
theorem keyW_JJ {S : S9} {s k : Int} (h : JJ S) (hk : IK1 S s k) : JJ (keyW S s k) := by
  have e : ∀ f, (f ≠ 9 ∧ f ≠ 14) → ∀ j, keyW S s k f j = S f j := fun f hf j => keyW_f hf
  refine ⟨IN_ag (fun f hf => e f (by omega)) h.1, ?_, IO_ag (fun f hf => e f (by omega)) h.2.2.1, IC_ag (fun f hf => e f (by omega)) h.2.2.2.1, IK_ag (fun f hf => e f (by omega)) h.2.2.2.2⟩
  intro s' w hw
  simp only [hasW, e 4 (by omega)] at hw
  have h1 := h.2.1 s' w hw
  have h2 := h.2.1 s _ hk.1
  unfold IW1 at h1 h2 ⊢
  rw [e 5 (by omega), e 6 (by omega), e 7 (by omega), e 8 (by omega)]
  have hA := area_le h2.2.2.2.2.1 h2.2.2.2.2.2.1 h2.2.2.2.2.2.2.1 h2.2.2.2.2.2.2.2.1
  have e9 : keyW S s k 9 w = S 9 w ∨ (w = S 18 (20 * s + k) ∧ keyW S s k 9 w = (S 9 w + 1) % (S 7 w * S 8 w)) := by
    unfold keyW
    split
    · rw [up_at]
      by_cases z : w = S 18 (20 * s + k)
      · rw [if_pos z, z]
        exact Or.inr ⟨rfl, rfl⟩
      · rw [if_neg z, up_f (by omega)]
        exact Or.inl rfl
    · exact Or.inl rfl
  rcases e9 with z | ⟨z1, z⟩
  · rw [z]
    exact h1
  · rw [z]
    subst z1
    have g1 := Int.emod_nonneg (S 9 (S 18 (20 * s + k)) + 1) (b := S 7 (S 18 (20 * s + k)) * S 8 (S 18 (20 * s + k))) (by omega)
    have g2 := Int.emod_lt_of_pos (S 9 (S 18 (20 * s + k)) + 1) (b := S 7 (S 18 (20 * s + k)) * S 8 (S 18 (20 * s + k))) (by omega)
    omega
theorem key1_JJ {S : S9} {s k : Int} (h : JJ S) (hk : IK1 S s k) : JJ (key1 S s k) := JJ_ag (fun f hf j => by unfold key1; unfold jF at hf; rw [up_f (by omega), up_f (by omega)]) (keyW_JJ h hk)
theorem keyN_JJ {S : S9} {s : Int} (h : JJ S) (h0 : 0 ≤ s) (h1 : s < 4) : ∀ n : Nat, (n : Int) ≤ S 17 s → JJ (keyN S s n)
  | 0, _ => h
  | n + 1, hn => by
    unfold keyN
    have a := keyN_JJ h h0 h1 n (by omega)
    exact key1_JJ a (a.2.2.2.2 s n h0 h1 (by omega) (by rw [keyN_f (by omega)]; omega))
theorem keyR_in {S : S9} {s k : Int} : 0 ≤ keyR S s k ∧ keyR S s k ≤ 1 := b2_le
theorem key1_IG {S : S9} {s k B : Int} (h : IG S B) : IG (key1 S s k) (B + 1) := by
  intro c h0 h1
  rw [key1_f (by omega)] at h1
  have := h c h0 h1
  have hr := keyR_in (S := S) (s := s) (k := k)
  have e38 : key1 S s k 38 c = if c = S 21 (20 * s + k) then S 38 (S 21 (20 * s + k)) + 1 else S 38 c := by
    unfold key1
    rw [up_f (by omega), up_at, keyW_f (by omega)]
  have e39 : key1 S s k 39 c = if c = S 21 (20 * s + k) then S 39 (S 21 (20 * s + k)) + keyR S s k else S 39 c := by
    unfold key1
    rw [up_at, up_f (by omega), keyW_f (by omega)]
  rw [e38, e39]
  split
  · rename_i e
    rw [← e]
    omega
  · omega
theorem keyN_IG {S : S9} {s B : Int} (h : IG S B) : ∀ n : Nat, IG (keyN S s n) (B + n)
  | 0 => by
    show IG S (B + ((0 : Nat) : Int))
    rw [show B + ((0 : Nat) : Int) = B by omega]
    exact h
  | n + 1 => by
    unfold keyN
    rw [show B + ((n + 1 : Nat) : Int) = B + (n : Int) + 1 by omega]
    exact key1_IG (keyN_IG h n)
theorem keyN_s (S : S9) (s : Int) (n : Nat) : keyN S s (n + 1) = key1 (keyN S s n) s n := rfl
/-- is a row left; how many are -/
def isLN (S : S9) (s r : Int) : Nat → Int
  | 0 => b2 (¬ S 29 (8 * s + r) = 1)
  | n + 1 => b2 (isLN S s r n = 1 ∨ S 30 (96 * s + (r * 12 + n)) ≠ screenAt S s (r * 12 + n))
def isL (S : S9) (s r : Int) : Int := isLN S s r 12
def cntL (S : S9) (s : Int) : Int := sg (fun r => isL S s r) (8 : Int).toNat
theorem isLN_01 {S : S9} {s r : Int} : ∀ n : Nat, isLN S s r n = 0 ∨ isLN S s r n = 1
  | 0 => b2_01
  | _ + 1 => b2_01
theorem isLN_s (S : S9) (s r : Int) (n : Nat) : isLN S s r (n + 1) = b2 (isLN S s r n = 1 ∨ S 30 (96 * s + (r * 12 + n)) ≠ screenAt S s (r * 12 + n)) := rfl
theorem isL_le {S : S9} {s r : Int} : 0 ≤ isL S s r ∧ isL S s r ≤ 1 := by
  unfold isL
  rcases isLN_01 (S := S) (s := s) (r := r) 12 with h | h <;> omega
theorem isLN_ag {S S' : S9} (h : ∀ f, ((5 ≤ f ∧ f ≤ 16) ∨ f = 29 ∨ f = 30) → ∀ j, S' f j = S f j) (s r : Int) : ∀ n : Nat, isLN S' s r n = isLN S s r n
  | 0 => by
    unfold isLN
    rw [h 29 (by omega)]
  | n + 1 => by
    rw [isLN_s, isLN_s, isLN_ag h s r n, h 30 (by omega), screenAt_ag (fun f h1 h2 => h f (by omega))]
theorem isL_ag {S S' : S9} (h : ∀ f, ((5 ≤ f ∧ f ≤ 16) ∨ f = 29 ∨ f = 30) → ∀ j, S' f j = S f j) (s r : Int) : isL S' s r = isL S s r := isLN_ag h s r 12
/-- the least row that is left among the last d; the least that isn't copied -/
def fndN (S : S9) (s : Int) : Nat → Int
  | 0 => -1
  | d + 1 => if isL S s (7 - (d : Int)) = 1 then 7 - (d : Int) else fndN S s d
def frsN (S : S9) (s : Int) : Nat → Int
  | 0 => -1
  | d + 1 => if S 29 (8 * s + (7 - (d : Int))) = 1 then frsN S s d else 7 - (d : Int)
theorem fndN_s (S : S9) (s : Int) (d : Nat) : fndN S s (d + 1) = if isL S s (7 - (d : Int)) = 1 then 7 - (d : Int) else fndN S s d := rfl
theorem frsN_s (S : S9) (s : Int) (d : Nat) : frsN S s (d + 1) = if S 29 (8 * s + (7 - (d : Int))) = 1 then frsN S s d else 7 - (d : Int) := rfl
def rowN (S : S9) (s : Int) : Int := if 0 ≤ frsN S s 8 then frsN S s 8 else fndN S s 8
def cpyI (S : S9) (s r n : Int) : S9 := fun f j => if f = 30 ∧ 96 * s + r * 12 ≤ j ∧ j < 96 * s + r * 12 + n then screenAt S s (j - 96 * s) else S f j
theorem cpyI_s {S : S9} {s r k v j : Int} {f : Nat} (hk : 0 ≤ k) (hv : v = screenAt S s (r * 12 + k)) : cpyI S s r (k + 1) f j = up (cpyI S s r k) 30 (96 * s + r * 12 + k) v f j := by
  by_cases e : f = 30 ∧ j = 96 * s + r * 12 + k
  · obtain ⟨rfl, rfl⟩ := e
    rw [up_eq, hv]
    unfold cpyI
    rw [if_pos (by omega)]
    congr 1
    omega
  · have e2 : up (cpyI S s r k) 30 (96 * s + r * 12 + k) v f j = cpyI S s r k f j := if_neg e
    rw [e2]
    unfold cpyI
    by_cases e3 : f = 30 ∧ 96 * s + r * 12 ≤ j ∧ j < 96 * s + r * 12 + k
    · rw [if_pos e3, if_pos (by omega)]
    · rw [if_neg e3, if_neg (by omega)]
/-- what copyRows does -/
def rowsS (S : S9) (s : Int) : S9 :=
  if S 26 s = 1 ∧ cntL S s ≤ 2 then up (up (up S 27 s 1) 26 s 0) 28 s (S 28 s + 1)
  else if S 26 s = 1 then cpyI (up (up S 27 s 0) 29 (8 * s + rowN S s) 1) s (rowN S s) 12
  else up S 27 s 0
/-- the least row that is left is there, where more than none are -/
theorem fndN_neg {S : S9} {s : Int} : ∀ d : Nat, d ≤ 8 → fndN S s d < 0 → ∀ r : Int, 8 - (d : Int) ≤ r → r < 8 → isL S s r = 0
  | 0, _, _, r, h1, h2 => by omega
  | d + 1, hd, h, r, h1, h2 => by
    rw [fndN_s] at h
    split at h
    · omega
    · rename_i e
      by_cases er : r = 7 - (d : Int)
      · rw [er]
        have := isL_le (S := S) (s := s) (r := 7 - (d : Int))
        omega
      · exact fndN_neg d (by omega) h r (by omega) h2
theorem fndN_in {S : S9} {s : Int} : ∀ d : Nat, d ≤ 8 → -1 ≤ fndN S s d ∧ fndN S s d < 8
  | 0, _ => by unfold fndN; omega
  | d + 1, hd => by
    rw [fndN_s]
    have := fndN_in (S := S) (s := s) d (by omega)
    split <;> omega
theorem frsN_in {S : S9} {s : Int} : ∀ d : Nat, d ≤ 8 → -1 ≤ frsN S s d ∧ frsN S s d < 8
  | 0, _ => by unfold frsN; omega
  | d + 1, hd => by
    rw [frsN_s]
    have := frsN_in (S := S) (s := s) d (by omega)
    split <;> omega
theorem sg_z {f : Int → Int} : ∀ n : Nat, (∀ i, 0 ≤ i → i < n → f i = 0) → sg f n = 0
  | 0, _ => rfl
  | n + 1, h => by
    unfold sg
    rw [sg_z n (fun i h0 h1 => h i h0 (by omega)), h n (by omega) (by omega)]
    rfl
theorem rowN_in {S : S9} {s : Int} (h : 2 < cntL S s) : 0 ≤ rowN S s ∧ rowN S s < 8 := by
  have h1 := fndN_in (S := S) (s := s) 8 (Nat.le_refl _)
  have h2 := frsN_in (S := S) (s := s) 8 (Nat.le_refl _)
  unfold rowN
  split
  · omega
  · refine ⟨?_, h1.2⟩
    rcases Int.lt_or_le (fndN S s 8) 0 with z | z
    · exfalso
      have := sg_z (f := fun r => isL S s r) (8 : Int).toNat (fun i h0 h3 => fndN_neg 8 (Nat.le_refl _) z i (by omega) (by omega))
      unfold cntL at h
      omega
    · exact z
def itsL (S : S9) (s p : Int) : Int := if 0 ≤ topAt S s p ∧ S 12 (topAt S s p) = 1 then 255 else screenAt S s p
def oldL (S : S9) (s p : Int) : Int := if S 32 s = 0 then 0 else S 34 ((60 * s + (S 32 s - 1)) * 96 + p)
def lokI (S : S9) (s n : Int) : S9 := fun f j => if f = 34 ∧ (60 * s + S 32 s) * 96 ≤ j ∧ j < (60 * s + S 32 s) * 96 + n then itsL S s (j - (60 * s + S 32 s) * 96) else if f = 33 ∧ j = s then S 33 s + sg (fun p => b2 (itsL S s p ≠ oldL S s p)) n.toNat else S f j
/-- what recordLook does -/
def recS (S : S9) (s : Int) : S9 := if S 31 s = 1 ∧ S 32 s ≠ 60 then up (lokI S s 96) 32 s (S 32 s + 1) else S
