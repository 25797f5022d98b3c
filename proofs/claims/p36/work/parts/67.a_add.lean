/-! adding to a list -/
theorem e_lalen {l : Launch} {Y : zM} {Q : zO → zH → Prop} {k n pc : Nat} {ls st : List zV} {h : zH} {a ed : Nat} {cp len : Int} {q : Int → Option Nat} (hA : LA h a ed cp len q) (d : decode (zMc Y) pc = .ok (.arraylength, 1)) (K : AW l Y Q k n (pc + 1) ls (zI cp :: st) h) : AW l Y Q k n pc ls (zR (some ed) :: st) h := by
  rcases hA.2.2.2.2.1 with ⟨z1, z2⟩ | ⟨z1, z2, z3, z4⟩
  · subst z1
    subst z2
    exact e_alen0 d K
  · exact e_alen (t := 7) d z3 z4 K
/-- where a list's row lies after one more is added -/
def GW (l : Launch) (h : zH) (n ed : Nat) (cp len : Int) (q : Int → Option Nat) (ed' : Nat) (cp' : Int) : Prop := (len < cp ∧ ed' = ed ∧ cp' = cp) ∨ (len = cp ∧ ∀ h1, LA h1 n ed cp len q → (∀ m, m ≠ n → eqAt m h h1) → zC l MJx4a65c_grow_d5877 [zR (some n)] h1 (fun o h' => o = .inl (some (zR (some ed'))) ∧ LA h' n ed' cp' len q ∧ ∀ m, m ≠ n → m ≠ ed' → eqAt m h1 h'))
theorem GW_at {l : Launch} {h h1 : zH} {n ed ed' : Nat} {cp len cp' : Int} {q : Int → Option Nat} (e : ∀ m, m ≠ n → eqAt m h h1) (g : GW l h n ed cp len q ed' cp') : GW l h1 n ed cp len q ed' cp' := by
  rcases g with g | ⟨g1, g2⟩
  · exact Or.inl g
  · exact Or.inr ⟨g1, fun h2 a b => g2 h2 a (fun m hm => eqAt_tr (e m hm) (b m hm))⟩
/-- room left -/
theorem GW_room {l : Launch} {h : zH} {n ed : Nat} {cp len : Int} {q : Int → Option Nat} (z : len < cp) : GW l h n ed cp len q ed cp := Or.inl ⟨z, rfl, rfl⟩
/-- the first row -/
theorem GW_first {l : Launch} (hl : l.stackTraces = false) {h : zH} {n : Nat} {cp len : Int} {q : Int → Option Nat} (hA : LA h n 0 cp len q) (a : Nat) (a1 : 1 < a) (ha : zK h a = 0) (hna : n ≠ a) : GW l h n 0 cp len q a 10 := by
  obtain ⟨a1', a2, a3, a4, a5, a6⟩ := id hA
  have hl0 : len = 0 := by rcases a5 with z | z <;> omega
  have hc0 : cp = 0 := by rcases a5 with z | z <;> omega
  refine Or.inr ⟨by omega, fun h1 hA1 e => ?_⟩
  exact c_Jx4a65c_grow_d5877 hl hA1 hl0 a a1 ((e a (fun z => hna z.symm)).1.trans ha) hna
theorem LA_add {h : zH} {n ed b : Nat} {cp len : Int} {q : Int → Option Nat} (hA : LA h n ed cp len q) (z : len < cp) : LA (sf (sq h ed len (some b)) 2 n (len + 1)) n ed cp (len + 1) (fun j => if j = len then some b else q j) := by
  obtain ⟨a1, a2, a3, a4, a5, a6⟩ := hA
  refine ⟨a1, a2, z2_eq, ⟨by omega, by omega⟩, a5, fun j j0 j1 => ?_⟩
  show z3 (zq h) ed len (some b) ed j = _
  by_cases e : j = len
  · subst e
    exact z3_eq.trans (if_pos rfl).symm
  · exact ((z3_ni e).trans (a6 j j0 (by omega))).trans (if_neg e).symm
theorem LA_mc {h : zH} {n ed : Nat} {cp len mc : Int} {q : Int → Option Nat} (hA : LA h n ed cp len q) : LA (sf h 0 n mc) n ed cp len q := by
  obtain ⟨a1, a2, a3, a4, a5, a6⟩ := hA
  exact ⟨a1, a2, (show z2 (zf h) 0 n mc 2 n = len from (z2_ni (by decide)).trans a3), a4, a5, a6⟩
