/-! p36: the rows of bits stay bits; the colours that were had -/
def bF (f : Nat) : Prop := f = 10 ∨ f = 11 ∨ f = 12 ∨ f = 13 ∨ f = 24 ∨ f = 25 ∨ f = 26 ∨ f = 27 ∨ f = 29 ∨ f = 31
theorem IBt_ag {S S' : S9} (e : ∀ f, bF f → ∀ j, S' f j = S f j) (a : IBt S) : IBt S' := fun f hf j => by rw [e f hf j]; exact a f hf j
theorem IBt_up {S : S9} {f : Nat} {i v : Int} (h : bF f → v = 0 ∨ v = 1) (a : IBt S) : IBt (up S f i v) := by
  intro g hg j
  unfold up
  split
  · rename_i e
    exact h (by rw [← e.1]; exact hg)
  · exact a g hg j
theorem IBt_no {S : S9} {f : Nat} {i v : Int} (h : ¬ bF f) (a : IBt S) : IBt (up S f i v) := IBt_up (fun z => absurd z h) a
theorem IBt_tk {S : S9} {s p : Int} (a : IBt S) : IBt (tkO S s p) := IBt_ag (fun f hf j => tkO_f (by unfold bF at hf; omega) (by unfold bF at hf; omega)) a
theorem IBt_opW {S : S9} {s x y w t : Int} (a : IBt S) : IBt (opW S s x y w t) := by
  unfold opW
  exact IBt_no (by unfold bF; omega) (IBt_no (by unfold bF; omega) (IBt_up (fun _ => Or.inr rfl) (IBt_up (fun _ => Or.inr rfl) (IBt_no (by unfold bF; omega) (IBt_no (by unfold bF; omega) (IBt_no (by unfold bF; omega) (IBt_no (by unfold bF; omega) (IBt_no (by unfold bF; omega) a))))))))
theorem IBt_clo {S : S9} {s w p : Int} (a : IBt S) : IBt (cloS S s w p) := IBt_tk (IBt_up (fun _ => Or.inl rfl) a)
theorem IBt_rai {S : S9} {s w p : Int} (a : IBt S) : IBt (raiS S s w p) := IBt_ag (fun f hf j => raiS_f (by unfold bF at hf; omega)) a
theorem IBt_mov {S : S9} {w x y : Int} (a : IBt S) : IBt (movS S w x y) := IBt_ag (fun f hf j => movS_f (by unfold bF at hf; omega)) a
theorem IBt_draw {S : S9} {w x y t b c : Int} (a : IBt S) : IBt (drawS S w x y t b c) := IBt_ag (fun f hf j => drawS_f (by unfold bF at hf; omega)) a
theorem IBt_join {S : S9} {s b : Int} (a : IBt S) : IBt (joinS S s b) := IBt_ag (fun f hf j => joinS_f (by unfold bF at hf; omega)) a
theorem IBt_typ {S : S9} {c t : Int} (a : IBt S) : IBt (typS S c t) := by
  unfold typS
  exact IBt_no (by unfold bF; omega) (IBt_no (by unfold bF; omega) (IBt_no (by unfold bF; omega) (IBt_no (by unfold bF; omega) (IBt_no (by unfold bF; omega) a))))
theorem IBt_pasI {S : S9} {s o : Int} {g : Int → Int} (h : ∀ j, g j = 0 ∨ g j = 1) (a : IBt S) : IBt (pasI S s o g) := by
  intro f hf j
  unfold pasI
  split
  · exact h _
  · exact a f hf j
theorem IBt_cop {S : S9} {s t v : Int} (a : IBt S) : IBt (copS S s t v) := IBt_pasI (fun _ => b2_01) (IBt_no (by unfold bF; omega) (IBt_no (by unfold bF; omega) a))
theorem IBt_pas {S : S9} {x y : Int} (a : IBt S) : IBt (pasS S x y) := IBt_pasI (fun _ => b2_01) (IBt_no (by unfold bF; omega) (IBt_no (by unfold bF; omega) a))
theorem IBt_movg {S : S9} {s : Int} (a : IBt S) : IBt (movgS S s) := by
  intro f hf j
  unfold movgS notI
  split
  · exact Or.inl rfl
  · exact IBt_up (fun _ => Or.inr rfl) a f hf j
theorem IBt_rec {S : S9} {s : Int} (a : IBt S) : IBt (recB S s) := by
  unfold recB
  exact IBt_up (fun _ => Or.inr rfl) (IBt_no (by unfold bF; omega) (IBt_no (by unfold bF; omega) a))
theorem IBt_tikS {S : S9} {t : Int} (a : IBt S) : IBt (tikS S t) := IBt_no (by unfold bF; omega) (IBt_tikN a _)
/-- every colour of a window's cells, of a picture, of a key that waits was had -/
def HD (S : S9) (H : Int → Prop) : Prop := H 0 ∧ (∀ j, 0 ≤ j → j < 2304 → H (S 14 j)) ∧ (∀ j, 0 ≤ j → j < 576 → H (S 40 j)) ∧ ∀ s k, 0 ≤ s → s < 4 → 0 ≤ k → k < S 17 s → H (S 19 (20 * s + k)) ∧ H 7
theorem HD_ag {S S' : S9} {H : Int → Prop} (e : ∀ f, (f = 14 ∨ f = 17 ∨ f = 19 ∨ f = 40) → ∀ j, S' f j = S f j) (a : HD S H) : HD S' H := by
  unfold HD at a ⊢
  simp only [e 14 (by decide), e 17 (by decide), e 19 (by decide), e 40 (by decide)]
  exact a
theorem HD_le {S : S9} {H H' : Int → Prop} (h : ∀ v, H v → H' v) (a : HD S H) : HD S H' := ⟨h _ a.1, fun j j0 j1 => h _ (a.2.1 j j0 j1), fun j j0 j1 => h _ (a.2.2.1 j j0 j1), fun s k s0 s4 k0 k1 => ⟨h _ (a.2.2.2 s k s0 s4 k0 k1).1, h _ (a.2.2.2 s k s0 s4 k0 k1).2⟩⟩
theorem screen_H {S : S9} {H : Int → Prop} {s p : Int} (hJ : JJ S) (a : HD S H) (s0 : 0 ≤ s) (s4 : s < 4) : H (screenAt S s p) := by
  have ht := topAt_in (p := p) hJ.1 hJ.2.2.1 s0 s4
  unfold screenAt
  split
  · exact a.1
  · rename_i z
    rcases ht with ht | ⟨hw, -, -, hc⟩
    · omega
    · have hc2 := cellAt_in (p := p) (hJ.2.1 s _ hw)
      have hb := hJ.1.2.2.2.2 s s0 s4
      have hw2 := hw.2.2
      exact a.2.1 _ (by omega) (by omega)
theorem seen_H {S : S9} {H : Int → Prop} {c p : Int} (hJ : JJ S) (a : HD S H) (hc : isC S c) (p0 : 0 ≤ p) (p1 : p < 96) : H (seen S c p) := by
  have hcs := hJ.2.2.2.1 c hc.1 hc.2
  have h1 := hJ.1.2.1
  have h2 := hJ.1.2.2.2.1
  have hc2 := hc.2
  have hc1 := hc.1
  have h0 : H (S 40 (96 * c + p)) := a.2.2.1 _ (by omega) (by omega)
  have hk : ∀ n : Nat, (n : Int) ≤ S 17 (S 35 c) → H (seenN S c (S 35 c) p (S 40 (96 * c + p)) n) := by
    intro n
    induction n with
    | zero => intro _; exact h0
    | succ n ih =>
      intro hn
      show H (if _ then _ else _)
      split
      · exact (a.2.2.2 (S 35 c) n hcs.1 (by omega) (by omega) (by omega)).1
      · exact ih (by omega)
  have hb := hJ.1.2.2.2.2 (S 35 c) hcs.1 (by omega)
  exact hk _ (by omega)
theorem HD_draw {S : S9} {H : Int → Prop} {w x y t b c : Int} (hc : H c) (a : HD S H) : HD (drawS S w x y t b c) H := by
  refine ⟨a.1, fun j j0 j1 => ?_, fun j j0 j1 => ?_, fun s k s0 s4 k0 k1 => ?_⟩
  · show H (if _ then _ else _)
    split
    · exact hc
    · exact a.2.1 j j0 j1
  · rw [drawS_f (by decide)]; exact a.2.2.1 j j0 j1
  · rw [drawS_f (by decide)] at k1
    rw [drawS_f (by decide)]
    exact a.2.2.2 s k s0 s4 k0 k1
theorem HD_typ {S : S9} {H : Int → Prop} {c t : Int} (h1 : H (101 + t - 97)) (h7 : H 7) (hs : 0 ≤ S 35 c) (hn : 0 ≤ S 17 (S 35 c) ∧ S 17 (S 35 c) < 20) (hb : ∀ s, 0 ≤ s → s < 4 → S 17 s ≤ 20) (a : HD S H) : HD (typS S c t) H := by
  have e : ∀ f, (f ≠ 17 ∧ f ≠ 18 ∧ f ≠ 19 ∧ f ≠ 20 ∧ f ≠ 21) → ∀ j, typS S c t f j = S f j := fun f hf j => by
    unfold typS
    rw [up_f (by omega), up_f (by omega), up_f (by omega), up_f (by omega), up_f (by omega)]
  have e17 : ∀ s, typS S c t 17 s = if s = S 35 c then S 17 (S 35 c) + 1 else S 17 s := fun s => by
    unfold typS
    rw [up_at, up_f (by omega), up_f (by omega), up_f (by omega), up_f (by omega)]
  have e19 : ∀ j, typS S c t 19 j = if j = 20 * S 35 c + S 17 (S 35 c) then 101 + t - 97 else S 19 j := fun j => by
    unfold typS
    rw [up_f (by omega), up_f (by omega), up_f (by omega), up_at, up_f (by omega)]
  refine ⟨a.1, fun j j0 j1 => ?_, fun j j0 j1 => ?_, fun s k s0 s4 k0 k1 => ⟨?_, h7⟩⟩
  · rw [e 14 (by decide)]; exact a.2.1 j j0 j1
  · rw [e 40 (by decide)]; exact a.2.2.1 j j0 j1
  · rw [e17] at k1
    rw [e19]
    split
    · exact h1
    · rename_i z
      have := hb s s0 s4
      split at k1
      · rename_i z2
        subst z2
        exact (a.2.2.2 _ k s0 s4 k0 (by omega)).1
      · exact (a.2.2.2 s k s0 s4 k0 k1).1
/-- a change's source lies in the picture -/
theorem okT_src {p q : Int} {b : T6} (hp : 0 ≤ p ∧ p < 96) (h : okT p b) (hc : 3 ≤ b.2.1) (h9 : b.1 = 99) (hx : 0 ≤ q % 12 - p % 12 ∧ q % 12 - p % 12 < b.2.2.2.1) (hy : 0 ≤ q / 12 - p / 12 ∧ q / 12 - p / 12 < b.2.2.2.2.1) : 0 ≤ q + b.2.2.2.2.2 ∧ q + b.2.2.2.2.2 < 96 := by
  rcases h with z | ⟨-, -, -, hv, hd⟩
  · omega
  · obtain ⟨dx, dy, e1, e2⟩ := hd h9
    have e3 := hv
    rw [e1]
    omega
theorem HD_send {S : S9} {H : Int → Prop} {c : Int} (hJ : JJ S) (a : HD S H) (hc : isC S c) (hn : hasN S c) : HD (sendS S c) H := by
  have hcs := hJ.2.2.2.1 c hc.1 hc.2
  have h1 := hJ.1.2.1
  have h2 := hJ.1.2.2.2.1
  have hc2 := hc.2
  have hc1 := hc.1
  have hb := bstC_ok hn
  have hf := fst9_in (Pc S c) (Rc S c)
  have hn2 : fst9 (Pc S c) (Rc S c) < 96 := hn
  refine ⟨a.1, fun j j0 j1 => ?_, fun j j0 j1 => ?_, fun s k s0 s4 k0 k1 => ?_⟩
  · rw [sendS_f (by decide)]; exact a.2.1 j j0 j1
  · unfold sendS chgS chgI
    split
    · rename_i z
      obtain ⟨-, ⟨j2, j3⟩, ⟨hx, hy⟩, -⟩ := z
      unfold colC
      split
      · rename_i z9
        have hs := okT_src ⟨hf.1, hn2⟩ hb.1 hb.2.1 z9 hx hy
        exact a.2.2.1 _ (by omega) (by omega)
      · split
        · exact screen_H hJ a hcs.1 (by omega)
        · exact screen_H hJ a hcs.1 (by omega)
    · unfold payS
      rw [up_f (by decide)]
      exact a.2.2.1 j j0 j1
  · rw [sendS_f (by decide)] at k1
    rw [sendS_f (by decide)]
    exact a.2.2.2 s k s0 s4 k0 k1
theorem HD_line {H : Int → Prop} : ∀ (u : Nat) {S : S9} (left : Int), JJ S → HD S H → HD (lineS S left u).1 H
  | 0, S, left, hJ, a => a
  | u + 1, S, left, hJ, a => by
    rw [lineS_s]
    split
    · exact a
    · rename_i e
      have h2 := hJ.1.2.2.1
      rcases chN_in S left (S 2 0).toNat with z | z
      · omega
      · exact HD_line u _ (sendS_JJ hJ) (HD_send hJ a ⟨z.1, by omega⟩ z.2.2.1)
theorem HD_key {S : S9} {H : Int → Prop} {s k : Int} (a : HD S H) (s0 : 0 ≤ s) (s4 : s < 4) (k0 : 0 ≤ k) (k1 : k < S 17 s) : HD (key1 S s k) H := by
  have hk := a.2.2.2 s k s0 s4 k0 k1
  refine ⟨a.1, fun j j0 j1 => ?_, fun j j0 j1 => ?_, fun t i t0 t4 i0 i1 => ?_⟩
  · unfold key1
    rw [up_f (by decide), up_f (by decide)]
    unfold keyW
    split
    · rw [up_f (by decide), up_at]
      split
      · split
        · exact hk.2
        · exact hk.1
      · exact a.2.1 j j0 j1
    · exact a.2.1 j j0 j1
  · rw [key1_f (by decide)]; exact a.2.2.1 j j0 j1
  · rw [key1_f (by decide)] at i1
    rw [key1_f (by decide)]
    exact a.2.2.2 t i t0 t4 i0 i1
theorem HD_keyN {S : S9} {H : Int → Prop} {s : Int} (a : HD S H) (s0 : 0 ≤ s) (s4 : s < 4) : ∀ n : Nat, (n : Int) ≤ S 17 s → HD (keyN S s n) H
  | 0, _ => a
  | n + 1, h => by
    rw [keyN_s]
    exact HD_key (HD_keyN a s0 s4 n (by omega)) s0 s4 (by omega) (by rw [keyN_f (by decide)]; omega)
theorem HD_doK {S : S9} {H : Int → Prop} {s : Int} (hJ : JJ S) (a : HD S H) (s0 : 0 ≤ s) (s4 : s < 4) : HD (doK S s) H := by
  have hb := hJ.1.2.2.2.2 s s0 s4
  have h1 := HD_keyN a s0 s4 (S 17 s).toNat (by omega)
  unfold doK
  refine ⟨h1.1, fun j j0 j1 => ?_, fun j j0 j1 => ?_, fun t i t0 t4 i0 i1 => ?_⟩
  · rw [up_f (by decide)]; exact h1.2.1 j j0 j1
  · rw [up_f (by decide)]; exact h1.2.2.1 j j0 j1
  · rw [up_at] at i1
    rw [up_f (by decide)]
    split at i1
    · omega
    · exact h1.2.2.2 t i t0 t4 i0 i1
theorem HD_ses {S : S9} {H : Int → Prop} {s : Int} (hJ : JJ S) (a : HD S H) (s0 : 0 ≤ s) (s4 : s < 4) : HD (sesS S s) H := by
  unfold sesS
  refine HD_ag (fun f hf j => recS_f (by omega)) ?_
  split
  · exact a
  · exact HD_doK hJ a s0 s4
theorem HD_sesN {S : S9} {H : Int → Prop} (hJ : JJ S) (a : HD S H) : ∀ n : Nat, n ≤ 4 → HD (sesN S n) H
  | 0, _ => a
  | n + 1, h => by
    rw [sesN_s]
    exact HD_ses (sesN_JJ hJ n (by omega)) (HD_sesN hJ a n (by omega)) (by omega) (by omega)
theorem HD_tik1 {S : S9} {H : Int → Prop} (hJ : JJ S) (a : HD S H) : HD (tik1 S) H := by
  have h1 := hJ.1.2.1
  have h2 : HD (befS S) H := HD_ag (fun f hf j => befS_f (by omega)) a
  unfold tik1
  exact HD_sesN (lineS_JJ (befS_JJ hJ) 24 24) (HD_line 24 24 (befS_JJ hJ) h2) _ (by omega)
theorem HD_tikN {S : S9} {H : Int → Prop} (hJ : JJ S) (a : HD S H) : ∀ n : Nat, HD (tikN S n) H
  | 0 => a
  | n + 1 => by
    rw [tikN_s]
    exact HD_tik1 (tikN_JJ hJ n) (HD_tikN hJ a n)
theorem HD_tikS {S : S9} {H : Int → Prop} {t : Int} (hJ : JJ S) (a : HD S H) : HD (tikS S t) H := HD_ag (fun f hf j => up_f (by omega)) (HD_tikN hJ a _)
