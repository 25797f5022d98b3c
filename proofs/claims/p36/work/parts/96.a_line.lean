theorem mn_l {a b : Int} (h : a ≤ b) : mn a b = a := if_pos h
theorem mn_r {a b : Int} (h : b ≤ a) : mn a b = b := by
  unfold mn
  by_cases z : a ≤ b
  · rw [if_pos z]; omega
  · exact if_neg z
/-- only the clients' names are touched -/
def FL (h h' : zH) : Prop := ∀ m, (∀ c k, 0 ≤ c → c < 6 → k ≤ 4 → m ≠ nC c + k) → eqAt m h h'
theorem FL_rf {h : zH} : FL h h := fun _ _ => eqAt_rf
theorem FL_tr {h h1 h2 : zH} (a : FL h h1) (b : FL h1 h2) : FL h h2 := fun m hm => eqAt_tr (a m hm) (b m hm)
theorem FL_c {h h' : zH} {c : Int} (c0 : 0 ≤ c) (c6 : c < 6) (hf : ∀ m, (∀ k, k ≤ 4 → m ≠ nC c + k) → eqAt m h h') : FL h h' := fun m hm => hf m (fun k hk => hm c k c0 c6 hk)
/-- the money's bounds -/
def IMo (S : S9) : Prop := ∀ c, 0 ≤ c → c < S 2 0 → 0 ≤ S 36 c ∧ S 36 c ≤ 9 ∧ 0 ≤ S 37 c ∧ S 37 c ≤ 60
theorem IMo_mon {S : S9} {n : Int} (hn : 0 ≤ n) (a : IMo S) : IMo (monI S n) := fun c c0 c1 => by
  rw [monI_f (by decide)] at c1
  have := a c c0 c1
  rw [monI_f (by decide)]
  unfold monI
  by_cases z : c < n
  · rw [if_pos ⟨rfl, c0, z⟩]
    split <;> omega
  · rw [if_neg (fun y => z y.2.2)]
    exact this
theorem IMo_send {S : S9} {c : Int} (hc : isC S c) (hk : 0 ≤ (bstC S c).2.1) (a : IMo S) : IMo (sendS S c) := fun d d0 d1 => by
  rw [sendS_f (by decide)] at d1
  have h1 := a d d0 d1
  have h2 := a c hc.1 hc.2
  rw [sendS_f (f := 36) (by decide)]
  have h4 := sendS_37 (S := S) (c := c) (d := d) ⟨h1.2.2.1, h1.2.2.2⟩ ⟨h2.2.2.1, h2.2.2.2⟩ hk
  exact ⟨h1.1, h1.2.1, h4.1, h4.2⟩
theorem IJ_mon {S : S9} {n : Int} (a : IJ S) : IJ (monI S n) := ⟨JJ_ag (fun f hf j => monI_f (by unfold jF at hf; omega)) a.1, fun s s0 s4 => by rw [monI_f (by decide)]; exact a.2 s s0 s4⟩
theorem IJ_send {S : S9} {c : Int} (a : IJ S) : IJ (sendS S c) := ⟨sendS_JJ a.1, fun s s0 s4 => by rw [sendS_f (by decide)]; exact a.2 s s0 s4⟩
/-- the screen's row that a client looks at -/
theorem RC_scr {S : S9} {h : zH} {c : Int} (hC : IC S) (a : RC S h) (hc : isC S c) : RCo h (S 35 c) (screenAt S (S 35 c)) := (a.2.1 (S 35 c) (hC c hc.1 hc.2)).2.2.1
/-- one client's money and next change -/
theorem RC_mon1 {S : S9} {h1 h3 : zH} {i : Int} (hI : IJ S) (hi : isC S i) (i6 : i < 6) (hR : RC (monI S i) h1) (hA : AF (monI S i) h1 i) (hCl : RCl (monI S (i + 1)) h3 i) (hCh : RCh (monI S (i + 1)) h3 i) (hD : CFd (monI S (i + 1)) h3 i) (hf : ∀ m, (∀ k, k ≤ 4 → m ≠ nC i + k) → eqAt m h1 h3) : RC (monI S (i + 1)) h3 ∧ AF (monI S (i + 1)) h3 (i + 1) := by
  have e : ∀ f j, ((35 ≤ f ∧ f ≤ 39) → j ≠ i) → (f = 40 → j < 96 * i ∨ 96 * i + 96 ≤ j) → monI S (i + 1) f j = monI S i f j := fun f j h1 _ => by
    rw [monI_s hi.1 rfl]
    unfold up
    rw [if_neg (by omega)]
  refine ⟨RC_cliJ (IJ_mon hI) (by rw [isC, monI_f (by decide)]; exact hi) e ⟨hCl, hCh⟩ hf (IJ_mon hI).1 hR, fun c c0 c1 => ?_⟩
  by_cases z : c = i
  · rw [z]; exact hD
  · have e2 : ∀ f, f ≠ 37 → ∀ j, monI S (i + 1) f j = monI S i f j := fun f hf j => by rw [monI_f hf, monI_f hf]
    exact CFd_ag (hf _ (fun k hk => by unfold nC; omega)) (fun f hf => e2 f (by omega)) (fun j _ _ => e2 40 (by decide) _) (funext fun q => e2 40 (by decide) _) (hA c c0 (by omega))
/-! the change depends on the picture's 96 places alone -/
section
variable {P Q R : Int → Int}
theorem fstR_cg (h : ∀ q, 0 ≤ q → q < 96 → Q q = P q) : ∀ d : Nat, d ≤ 96 → fstR Q R d = fstR P R d
  | 0, _ => rfl
  | d + 1, hd => by
    rw [fstR_s, fstR_s, h _ (by omega) (by omega), fstR_cg h d (by omega)]
theorem runR_cg (h : ∀ q, 0 ≤ q → q < 96 → Q q = P q) {p : Int} (p0 : 0 ≤ p) (p1 : p < 96) : ∀ d : Nat, (d : Int) ≤ 12 - p % 12 → runR Q R p d = runR P R p d
  | 0, _ => rfl
  | d + 1, hd => by
    rw [runR_s, runR_s, h _ (by omega) (by omega), runR_cg h p0 p1 d (by omega)]
theorem idx_in {p w t : Int} {k : Nat} (p0 : 0 ≤ p) (w0 : 1 ≤ w) (hv : vld (p % 12) (p / 12) w t) (hk : k < (w * t).toNat) : (0 ≤ (k : Int) / w ∧ (k : Int) / w < t) ∧ 0 ≤ (k : Int) % w ∧ (k : Int) % w < w := by
  have h1 : (k : Int) < t * w := by rw [Int.mul_comm]; omega
  exact ⟨⟨Int.ediv_nonneg (by omega) (by omega), Int.ediv_lt_of_lt_mul (by omega) h1⟩, Int.emod_nonneg _ (by omega), Int.emod_lt_of_pos _ (by omega)⟩
theorem gn_cg (h : ∀ q, 0 ≤ q → q < 96 → Q q = P q) {p c : Int} (p0 : 0 ≤ p) (p1 : p < 96) : gn Q R p c = gn P R p c := by
  unfold gn
  rw [h p p0 p1]
theorem gC_cg (h : ∀ q, 0 ≤ q → q < 96 → Q q = P q) {p w t a : Int} (p0 : 0 ≤ p) (p1 : p < 96) (w0 : 1 ≤ w) (hv : cOk p a w t) : gC Q R p w t (cBy a) = gC P R p w t (cBy a) := by
  refine sg_eq _ (fun k _ hk => ?_)
  have hi := idx_in p0 w0 hv.1 hk
  have h1 := hv.1
  have h2 := hv.2
  generalize hx : (k : Int) / w = x at *
  generalize hy : (k : Int) % w = y at *
  show gn Q R (p + x * 12 + y) (Q (p + x * 12 + y + ((a / 5 - 2) * 12 + a % 5 - 2))) = gn P R (p + x * 12 + y) (P (p + x * 12 + y + ((a / 5 - 2) * 12 + a % 5 - 2)))
  rw [gn_cg h (by omega) (by omega), h (p + x * 12 + y + ((a / 5 - 2) * 12 + a % 5 - 2)) (by omega) (by omega)]
theorem gF_cg (h : ∀ q, 0 ≤ q → q < 96 → Q q = P q) {p w t : Int} (p0 : 0 ≤ p) (p1 : p < 96) (w0 : 1 ≤ w) (hv : vld (p % 12) (p / 12) w t) : gF Q R p w t = gF P R p w t := by
  refine sg_eq _ (fun k _ hk => ?_)
  have hi := idx_in p0 w0 hv hk
  generalize hx : (k : Int) / w = x at *
  generalize hy : (k : Int) % w = y at *
  show gn Q R (p + x * 12 + y) (R p) = gn P R (p + x * 12 + y) (R p)
  exact gn_cg h (by omega) (by omega)
theorem cpH_cg (h : ∀ q, 0 ≤ q → q < 96 → Q q = P q) {p a w : Int} {b : T6} (p0 : 0 ≤ p) (p1 : p < 96) (w0 : 1 ≤ w) : ∀ n : Nat, cpH Q R p a w b n = cpH P R p a w b n
  | 0 => rfl
  | n + 1 => by
    rw [cpH_s, cpH_s, cpH_cg h p0 p1 w0 n]
    by_cases z : cOk p a w ((n : Int) + 1)
    · rw [if_pos z, if_pos z, gC_cg h p0 p1 w0 z]
    · rw [if_neg z, if_neg z]
theorem cpW_cg (h : ∀ q, 0 ≤ q → q < 96 → Q q = P q) {p a : Int} {b : T6} (p0 : 0 ≤ p) (p1 : p < 96) : ∀ n : Nat, cpW Q R p a b n = cpW P R p a b n
  | 0 => rfl
  | n + 1 => by
    rw [cpW_s, cpW_s, cpW_cg h p0 p1 n, cpH_cg h p0 p1 (by omega)]
theorem cpA_cg (h : ∀ q, 0 ≤ q → q < 96 → Q q = P q) {p : Int} {b : T6} (p0 : 0 ≤ p) (p1 : p < 96) : ∀ n : Nat, cpA Q R p b n = cpA P R p b n
  | 0 => rfl
  | n + 1 => by
    rw [cpA_s, cpA_s, cpA_cg h p0 p1 n]
    by_cases z : n = 12
    · rw [if_pos z, if_pos z]
    · rw [if_neg z, if_neg z, cpW_cg h p0 p1]
theorem flH_cg (h : ∀ q, 0 ≤ q → q < 96 → Q q = P q) {p w : Int} {b : T6} (p0 : 0 ≤ p) (p1 : p < 96) (w0 : 1 ≤ w) : ∀ n : Nat, flH Q R p w b n = flH P R p w b n
  | 0 => rfl
  | n + 1 => by
    rw [flH_s, flH_s, flH_cg h p0 p1 w0 n]
    by_cases z : vld (p % 12) (p / 12) w ((n : Int) + 1)
    · rw [if_pos z, if_pos z, gF_cg h p0 p1 w0 z]
    · rw [if_neg z, if_neg z]
theorem flW_cg (h : ∀ q, 0 ≤ q → q < 96 → Q q = P q) {p : Int} {b : T6} (p0 : 0 ≤ p) (p1 : p < 96) : ∀ n : Nat, flW Q R p b n = flW P R p b n
  | 0 => rfl
  | n + 1 => by
    rw [flW_s, flW_s, flW_cg h p0 p1 n, flH_cg h p0 p1 (by omega)]
theorem bst_cg (h : ∀ q, 0 ≤ q → q < 96 → Q q = P q) : fst9 Q R = fst9 P R ∧ (fst9 P R < 96 → bst Q R = bst P R) := by
  have h1 : fst9 Q R = fst9 P R := fstR_cg h 96 (Nat.le_refl _)
  refine ⟨h1, fun hp => ?_⟩
  have h2 := fst9_in P R
  have hr : run9 Q R (fst9 P R) = run9 P R (fst9 P R) := runR_cg h h2.1 hp _ (by omega)
  unfold bst
  rw [h1, cpA_cg h h2.1 hp, flW_cg h h2.1 hp, hr]
end
theorem CFd_cg {S S' : S9} {h h' : zH} {c : Int} (eh : eqAt (nC c + 1) h h') (e : ∀ f, ((5 ≤ f ∧ f ≤ 16) ∨ f = 35) → ∀ j, S' f j = S f j) (e40 : ∀ j, 0 ≤ j → j < 96 → S' 40 (96 * c + j) = S 40 (96 * c + j)) (a : CFd S h c) : CFd S' h' c := by
  have eR : Rc S' c = Rc S c := funext fun q => by
    show screenAt S' (S' 35 c) q = screenAt S (S 35 c) q
    rw [e 35 (by decide), screenAt_ag (fun f h5 h6 => e f (by omega))]
  have z := bst_cg (P := Pc S c) (Q := Pc S' c) (R := Rc S c) e40
  have e1 : hasN S' c ↔ hasN S c := by
    show fst9 (Pc S' c) (Rc S' c) < 96 ↔ fst9 (Pc S c) (Rc S c) < 96
    rw [eR, z.1]
  have e3 : fstC S' c = fstC S c := by
    show fst9 (Pc S' c) (Rc S' c) = fst9 (Pc S c) (Rc S c)
    rw [eR, z.1]
  obtain ⟨-, -, b3, -⟩ := eh
  rcases a with ⟨a1, a2⟩ | ⟨a1, a2⟩
  · exact Or.inl ⟨fun y => a1 (e1.mp y), (b3 104).trans a2⟩
  · have e2 : bstC S' c = bstC S c := by
      show bst (Pc S' c) (Rc S' c) = bst (Pc S c) (Rc S c)
      rw [eR]
      exact z.2 a1
    refine Or.inr ⟨e1.mpr a1, ?_⟩
    rw [e2, e3, b3, b3, b3, b3, b3, b3]
    exact a2
/-- one change sent -/
theorem RC_send {S : S9} {h1 h3 : zH} {c : Int} (hI : IJ S) (hc : isC S c) (c6 : c < 6) (hR : RC S h1) (hA : AF S h1 (S 2 0)) (hCl : RCl (sendS S c) h3 c) (hCh : RCh (sendS S c) h3 c) (hD : CFd (sendS S c) h3 c) (hf : ∀ m, (∀ k, k ≤ 4 → m ≠ nC c + k) → eqAt m h1 h3) : RC (sendS S c) h3 ∧ AF (sendS S c) h3 (S 2 0) := by
  refine ⟨RC_cliJ hI hc (fun f j h1 h2 => sendS_c ⟨fun z => h1 (by omega), h2⟩) ⟨hCl, hCh⟩ hf (sendS_JJ hI.1) hR, fun d d0 d1 => ?_⟩
  by_cases z : d = c
  · rw [z]; exact hD
  · have hn := hI.1.1.2.2.2.1
    exact CFd_cg (hf _ (fun k hk => by unfold nC; omega)) (fun f hf j => sendS_f (by omega)) (fun j j0 j1 => sendS_c ⟨fun y => absurd y (by decide), fun _ => by omega⟩) (hA d d0 d1)
