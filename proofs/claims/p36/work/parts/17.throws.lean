/-! throws, nest mates, copies -/
def zNs : List String := ["java/lang/RuntimeException", "java/lang/Exception"]
theorem zthrow {Q : zO → zH → Prop} {s : State} {D : va_G} {dA : Nat → ClassId} {ad0 ad : Nat → Nat} {h0 h : zH} {A : Nat → Prop} {H : Heap} {locs : List Loc} {E : String} (hP : zP s D dA A ad h H) (hE : zE h0 ad0 h ad) (hS : va_S A s.heap H locs) (hq : Q (.inr E) h) (t : State) (hvm : s.vm.Alike t.vm) (h1 : H.size ≤ t.heap.size) (h2 : ∀ q : Nat, q < H.size → t.heap[q]? = H[q]?) : zXc D dA ad0 h0 Q A E s t := by
  obtain ⟨g, L, tys, k1, k2, k3, k4, k5⟩ := hP
  refine ⟨⟨h, ad, hq, ⟨g, L, tys, va_K.moved hvm k1, k2, k3, k4.kept (fun i q hi => h2 q.1 (vx_lt k4 hi)), k5⟩, hE⟩, Nat.le_trans hS.1 h1, fun q hq1 hq2 => ?_⟩
  rw [h2 q (Nat.lt_of_lt_of_le hq1 hS.1)]
  exact hS.2.1 q hq1 hq2
/-- the words of a throw: good ones that the tables have, and one cast -/
def zAtOk (own : String) (ic : Nat) (cls : String) : Prop := (∀ w ∈ (vx_atS own ic cls zNs).filter goodWord, w ∈ lw_tbl) ∧ ∀ w ∈ (vx_atS own ic cls zNs).filter (fun w => !goodWord w), (w = Cond.castable cls cls ∨ ∃ x ∈ zDe, w = Cond.declares x)
theorem zat_cases {own cls : String} {ic : Nat} (h1 : ∀ w ∈ (vx_atS own ic cls zNs).filter goodWord, w ∈ lw_tbl) (h2 : ∀ w ∈ (vx_atS own ic cls zNs).filter (fun w => !goodWord w), w ∈ Cond.castable cls cls :: zDe.map Cond.declares) : zAtOk own ic cls := ⟨h1, fun w hw => by
  rcases List.mem_cons.mp (h2 w hw) with y | y
  · exact Or.inl y
  · obtain ⟨x, hx, rfl⟩ := List.mem_map.mp y
    exact Or.inr ⟨x, hx, rfl⟩⟩
theorem zat_ot {own cls : String} {ic : Nat} {w : Cond} (h : zAtOk own ic cls) (hw : w ∈ vx_atS own ic cls zNs) : vx_ot w = true := by
  unfold vx_ot
  cases hg : goodWord w with
  | true => rw [Bool.or_true]
  | false =>
    rcases h.2 w (List.mem_filter.mpr ⟨hw, by rw [hg]; rfl⟩) with y | ⟨x, -, y⟩ <;> rw [y] <;> rfl
theorem zat_hat {own cls : String} {ic : Nat} {args : Array Value} {s : State} (h : zAtOk own ic cls) (hT : ∀ w ∈ zT, w.before args s = true) (hc : va_Nw (.castable cls cls) s) (hd : ∀ x ∈ zDe, va_Nw (.declares x) s) : ∀ w ∈ vx_atS own ic cls zNs, w.before args s = true :=
  vx_hat (B := Cond.castable cls cls :: zDe.map Cond.declares) (fun w hw => hT w (zTm (h.1 w hw) (List.mem_filter.mp hw).2)) (fun w hw => by
    rcases h.2 w hw with y | ⟨x, hx, y⟩
    · rw [y]; exact List.mem_cons_self
    · rw [y]; exact List.mem_cons_of_mem _ (List.mem_map.mpr ⟨x, hx, rfl⟩)) (fun w hw => by
    rcases List.mem_cons.mp hw with y | y
    · rw [y]
      exact va_Nw.use rfl hc
    · obtain ⟨x, hx, rfl⟩ := List.mem_map.mp y
      exact va_Nw.use rfl (hd x hx))
theorem e_throw {l : Launch} {Y : zM} {Q : zO → zH → Prop} {k n pc : Nat} {ls st : List zV} {h : zH} {cls text : String} {ik is ic : Nat} (d0 : decode (zMc Y) pc = .ok (.new ik, 3)) (d3 : decode (zMc Y) (pc + 3) = .ok (.dup, 1)) (d4 : decode (zMc Y) (pc + 4) = .ok (.ldc is, 2)) (d6 : decode (zMc Y) (pc + 6) = .ok (.invokespecial ic, 3)) (d9 : decode (zMc Y) (pc + 9) = .ok (.athrow, 1)) (hfit : Bundle.fit cls = true) (w1 : Cond.classLink (zMy Y).cls ik cls ∈ zT) (w2 : Cond.initialized cls ∈ zT) (hstr : ((zMy Y).cls, is, text) ∈ zSs) (hcx : (cls, cls) ∈ zCa) (hat : zAtOk (zMy Y).cls ic cls) (hh : zMh Y = []) (hf : 5 < (zMr Y).frames) (hlo : 90 ≤ (zMr Y).locals) (hst : st.length ≤ 4) (hk : k + 1 ≤ (zMr Y).cells) (hn : n + 6 ≤ (zMr Y).slots) (hq : Q (.inr cls) h) : AW l Y Q k n pc ls st h := by
  intro p e s m args below meth c D dA ad0 h0 A C H locs ad lm hP hE hS hL o1 o2
  have hT := C.2.2.2.2.2.1
  have ht : c.exceptionTable.toList = [] := by
    rw [C.2.2.2.2.2.2.2.2.1, hh]
    rfl
  obtain ⟨sa, hsa⟩ := C.2.2.2.2.2.2.2.2.2.2.2.1.1 _ hstr
  have hcat := zcat_rest (ad := ad) hst
  have hgood : ∀ w ∈ Cond.classLink (zMy Y).cls ik cls :: Cond.initialized cls :: vx_atS (zMy Y).cls ic cls zNs, vx_ot w = true := by
    intro w hw
    rcases List.mem_cons.mp hw with rfl | hw
    · unfold vx_ot
      rw [(List.mem_filter.mp w1).2, Bool.or_true]
    · rcases List.mem_cons.mp hw with rfl | hw
      · unfold vx_ot
        rw [(List.mem_filter.mp w2).2, Bool.or_true]
      · exact zat_ot hat hw
  exact vx_throwS C.1 C.2.1 C.2.2.2.2.2.2.2.2.2.2.2.2.2.1 C.2.2.2.2.1 hfit (by decide) (hT _ w1) (hT _ w2) hsa (zat_hat hat hT (C.2.2.2.2.2.2.2.2.2.2.2.1.2.2.1 _ hcx) C.2.2.2.2.2.2.2.2.2.2.2.1.2.2.2.1) hgood C.2.2.2.2.2.2.2.2.2.2.1.1 C.2.2.2.2.2.2.2.2.2.2.1.2.1 hS (by rw [C.2.2.2.1]; exact hL.1) d0 d3 d4 d6 d9 (fun x hx => by rw [ht] at hx; cases hx) hf (by show _ + (13 * (2 + 1) + 43) ≤ _; omega) hk hn C.2.2.2.2.2.2.1 (zthrow hP hE hS hq) hS.2.2 hk hn
theorem e_throwW {l : Launch} {Y : zM} {Q : zO → zH → Prop} {k n pc : Nat} {ls st : List zV} {h : zH} {cls text : String} {ik is ic : Nat} (d0 : decode (zMc Y) pc = .ok (.new ik, 3)) (d3 : decode (zMc Y) (pc + 3) = .ok (.dup, 1)) (d4 : decode (zMc Y) (pc + 4) = .ok (.ldc_w is, 3)) (d7 : decode (zMc Y) (pc + 7) = .ok (.invokespecial ic, 3)) (d10 : decode (zMc Y) (pc + 10) = .ok (.athrow, 1)) (hfit : Bundle.fit cls = true) (w1 : Cond.classLink (zMy Y).cls ik cls ∈ zT) (w2 : Cond.initialized cls ∈ zT) (hstr : ((zMy Y).cls, is, text) ∈ zSs) (hcx : (cls, cls) ∈ zCa) (hat : zAtOk (zMy Y).cls ic cls) (hh : zMh Y = []) (hf : 5 < (zMr Y).frames) (hlo : 90 ≤ (zMr Y).locals) (hst : st.length ≤ 4) (hk : k + 1 ≤ (zMr Y).cells) (hn : n + 6 ≤ (zMr Y).slots) (hq : Q (.inr cls) h) : AW l Y Q k n pc ls st h := by
  intro p e s m args below meth c D dA ad0 h0 A C H locs ad lm hP hE hS hL o1 o2
  have hT := C.2.2.2.2.2.1
  have ht : c.exceptionTable.toList = [] := by
    rw [C.2.2.2.2.2.2.2.2.1, hh]
    rfl
  obtain ⟨sa, hsa⟩ := C.2.2.2.2.2.2.2.2.2.2.2.1.1 _ hstr
  have hcat := zcat_rest (ad := ad) hst
  have hgood : ∀ w ∈ Cond.classLink (zMy Y).cls ik cls :: Cond.initialized cls :: vx_atS (zMy Y).cls ic cls zNs, vx_ot w = true := by
    intro w hw
    rcases List.mem_cons.mp hw with rfl | hw
    · unfold vx_ot
      rw [(List.mem_filter.mp w1).2, Bool.or_true]
    · rcases List.mem_cons.mp hw with rfl | hw
      · unfold vx_ot
        rw [(List.mem_filter.mp w2).2, Bool.or_true]
      · exact zat_ot hat hw
  exact vx_throwSW C.1 C.2.1 C.2.2.2.2.2.2.2.2.2.2.2.2.2.1 C.2.2.2.2.1 hfit (by decide) (hT _ w1) (hT _ w2) hsa (zat_hat hat hT (C.2.2.2.2.2.2.2.2.2.2.2.1.2.2.1 _ hcx) C.2.2.2.2.2.2.2.2.2.2.2.1.2.2.2.1) hgood C.2.2.2.2.2.2.2.2.2.2.1.1 C.2.2.2.2.2.2.2.2.2.2.1.2.1 hS (by rw [C.2.2.2.1]; exact hL.1) d0 d3 d4 d7 d10 (fun x hx => by rw [ht] at hx; cases hx) hf (by show _ + (13 * (2 + 1) + 43) ≤ _; omega) hk hn C.2.2.2.2.2.2.1 (zthrow hP hE hS hq) hS.2.2 hk hn
theorem zat_1 : zAtOk RX8 34 "java/lang/IllegalStateException" := zat_cases (by decide +kernel) (by decide +kernel)
theorem zat_2 : zAtOk RX8 52 "java/lang/IllegalArgumentException" := zat_cases (by decide +kernel) (by decide +kernel)
theorem zat_3 : zAtOk RX8 249 "java/lang/IndexOutOfBoundsException" := zat_cases (by decide +kernel) (by decide +kernel)
theorem zat_4 : zAtOk RX8 194 "java/lang/UnsupportedOperationException" := zat_cases (by decide +kernel) (by decide +kernel)
theorem e_aastO {l : Launch} {Y : zM} {Q : zO → zH → Prop} {k n pc : Nat} {ls st : List zV} {h : zH} {a b ci : Nat} {i : Int} (d : decode (zMc Y) pc = .ok (.aastore, 1)) (hK : zK h a = 107) (hi0 : 0 ≤ i) (hi1 : i < zN h a) (hKb : zK h b = ci + 1) (hci : ci < 10) (w1 : (zCn ci, "java/lang/Object") ∈ zCa) (K : AW l Y Q k n (pc + 1) ls st (sq h a i (some b))) : AW l Y Q k n pc ls (zR (some b) :: zI i :: zR (some a) :: st) h := by
  intro p e s m args below meth c D dA ad0 h0 A C H locs ad lm hP hE hS hL o1 o2
  have hT := C.2.2.2.2.2.1
  obtain ⟨L, tys, q0, t0, h1, h2, h3, h4, h5, hq, ht0, hw⟩ := zP_row hP (t := 7) hK
  rw [zRw_q (by decide)] at hw
  obtain ⟨qk, hqk⟩ := List.getElem?_of_mem ((h2 b).mpr (by omega))
  obtain ⟨v1, v2, v3⟩ := zvin hP.1 hi0 hi1
  have hca : va_Nw (.castable (zCn ci) "java/lang/Object") s := C.2.2.2.2.2.2.2.2.2.2.2.1.2.2.1 _ w1
  refine va_astqO C.1 C.2.1 h1 h4 h5 hS q0 t0 qk ci (r := (zCn ci, zCt ci, zFn ci)) hw ht0 hca ((zW_at hqk).trans (by rw [zEn_o hKb hci])) (zCl_at ci hci) v1 d (fun H1 locs1 p1 p2 p3 => ?_)
  rw [zcl hi0 v3, show some (ad b) = (some b).map ad from rfl, ← zup_q hi0] at p1 p2
  have o9 : zok h (some b) := fun y hy => by cases hy; exact Or.inr (by omega)
  exact K p e s m args below meth c D dA ad0 h0 A C H1 locs1 ad lm (zP_stored (h := h) (h' := sq h a i (some b)) (zG_sq hP.1 o9) (fun _ => rfl) h1 h2 h3 h5 hq ((zEn_r (h := sq h a i (some b)) (t := 7) hK).trans (by rw [zRw_q (by decide)]; rfl)) (fun m hm => zEn_sq hm) p1 p2) (zE_st hE (fun _ => rfl)) p3 hL (zos_st (h := h) (h' := sq h a i (some b)) (fun _ => rfl) o1) (zos_st (h := h) (h' := sq h a i (some b)) (fun _ => rfl) (zo_tl (zo_tl (zo_tl o2))))
theorem zEn_saw {dA : Nat → ClassId} {ad : Nat → Nat} {h : zH} {n m : Nat} {g : Int → Int} (hm : m ≠ n) : zEn dA ad (saw h n g) m = zEn dA ad h m :=
  zEn_congr rfl rfl (fun _ => rfl) (fun j => if_neg hm) (fun _ => rfl) (fun _ => rfl) (fun _ => rfl) (fun _ => rfl) (fun _ => rfl)
theorem zEn_sqw {dA : Nat → ClassId} {ad : Nat → Nat} {h : zH} {n m : Nat} {g : Int → Option Nat} (hm : m ≠ n) : zEn dA ad (sqw h n g) m = zEn dA ad h m :=
  zEn_congr rfl rfl (fun _ => rfl) (fun _ => rfl) (fun _ => rfl) (fun j => by show (if m = n then g j else zq h m j).map ad = _; rw [if_neg hm]) (fun _ => rfl) (fun _ => rfl) (fun _ => rfl)
/-- what a copy leaves -/
def zcp {α : Type} (f g : Int → α) (sp dp n : Int) : Int → α := fun j => if dp ≤ j ∧ j < dp + n then f (sp + (j - dp)) else g j
theorem zG_saw {h : zH} {n : Nat} {g : Int → Int} (G : zG h) (h1 : ∀ j, zin (g j)) (h2 : zK h n = 101 → ∀ j, g j = 0 ∨ g j = 1) : zG (saw h n g) := by
  obtain ⟨g1, g2, g3, g4, g5, g6, g7, g8⟩ := G
  refine ⟨g1, fun m j => ?_, g3, g4, g5, g6, g7, fun m j hm => ?_⟩
  · show zin (if m = n then g j else za h m j)
    split
    · exact h1 j
    · exact g2 m j
  · show (if m = n then g j else za h m j) = 0 ∨ (if m = n then g j else za h m j) = 1
    split
    · rename_i e
      exact h2 (e ▸ hm) j
    · exact g8 m j hm
theorem zG_sqw {h : zH} {n : Nat} {g : Int → Option Nat} (G : zG h) (h1 : ∀ j, zok h (g j)) : zG (sqw h n g) := by
  obtain ⟨g1, g2, g3, g4, g5⟩ := G
  refine ⟨g1, g2, g3, fun m j => ?_, g5⟩
  show zok h (if m = n then g j else zq h m j)
  split
  · exact h1 j
  · exact g4 m j
theorem e_copyi {l : Launch} {Y : zM} {Q : zO → zH → Prop} {k n pc : Nat} {ls st : List zV} {h : zH} {idx a b : Nat} {sp dp c9 : Int} (d : decode (zMc Y) pc = .ok (.invokestatic idx, 3)) (w1 : Cond.methodLink (zMy Y).cls idx arraycopyName ∈ zT) (w2 : Cond.native arraycopyName ∈ zT) (w3 : Cond.static arraycopyName ∈ zT) (w4 : Cond.initialized "java/lang/System" ∈ zT) (hKa : zK h a = 100) (hKb : zK h b = 100) (h1 : 0 ≤ sp) (h2 : 0 ≤ dp) (h3 : 0 ≤ c9) (h4 : sp + c9 ≤ zN h a) (h5 : dp + c9 ≤ zN h b) (hst : st.length ≤ 4) (hf : 1 ≤ (zMr Y).frames) (hlo : 8 + (nativeFrameWords "java/lang/System" "arraycopy" 5 + 11) ≤ (zMr Y).locals) (K : AW l Y Q k n (pc + 3) ls st (saw h b (zcp (za h a) (za h b) sp dp c9))) : AW l Y Q k n pc ls (zI c9 :: zI dp :: zR (some b) :: zI sp :: zR (some a) :: st) h := by
  intro p e s m args below meth c D dA ad0 h0 A C H locs ad lm hP hE hS hL o1 o2
  have hT := C.2.2.2.2.2.1
  obtain ⟨La, ta, qa, t0, f1, f2, f3, f4, f5, fq, ft, fw⟩ := zP_row hP (t := 0) hKa
  obtain ⟨qb, hqb⟩ := List.getElem?_of_mem ((f2 b).mpr (by omega))
  have hwb := (zW_at (dA := dA) (ad := ad) (h := h) hqb).trans (by rw [zEn_r (t := 0) hKb])
  have hna := hP.1.2.2.2.2.1 a
  have hnb := hP.1.2.2.2.2.1 b
  have i1 : zin sp := ⟨by omega, by omega⟩
  have i2 : zin dp := ⟨by omega, by omega⟩
  have i3 : zin c9 := ⟨by omega, by omega⟩
  have hcat := zcat_rest (ad := ad) hst
  refine va_copyi C.1 C.2.1 (by rw [C.2.2.2.1]; exact hL.1.symm) C.2.2.2.2.1 (hT _ w1) (hT _ w2) (hT _ w3) (hT _ w4) f1 f4 f5 hS qa qb t0 t0 fw hwb ft ft rfl (fun y => ?_) (fun y => ?_) (fun y => ?_) ?_ ?_ (fun i _ => rfl) hf (Nat.le_trans (Nat.add_le_add_right hcat _) hlo) d (fun H1 locs1 p1 p2 p3 => ?_)
  · have := (zin_lt i1 zin_0).mp y
    omega
  · have := (zin_lt i2 zin_0).mp y
    omega
  · have := (zin_lt i3 zin_0).mp y
    omega
  · rw [zcl h1 i1, zcl h3 i3]
    omega
  · rw [zcl h2 i2, zcl h3 i3]
    omega
  · have e9 : va_cpy (fun j : Nat => Int32.ofInt (za h a (j : Int))) (fun j : Nat => Int32.ofInt (za h b (j : Int))) sp.toNat dp.toNat c9.toNat = (fun j : Nat => Int32.ofInt (za (saw h b (zcp (za h a) (za h b) sp dp c9)) b (j : Int))) := by
      funext j
      show _ = Int32.ofInt (if b = b then zcp (za h a) (za h b) sp dp c9 j else za h b j)
      rw [if_pos rfl]
      unfold va_cpy zcp
      by_cases e : dp ≤ (j : Int) ∧ (j : Int) < dp + c9
      · rw [if_pos e, if_pos ⟨by omega, by omega⟩]
        exact congrArg (fun z => Int32.ofInt (za h a z)) (by omega)
      · rw [if_neg e, if_neg (fun y => e ⟨by omega, by omega⟩)]
    rw [zcl h1 i1, zcl h2 i2, zcl h3 i3, e9] at p1 p2
    refine K p e s m args below meth c D dA ad0 h0 A C H1 locs1 ad lm (zP_stored (h := h) (h' := saw h b (zcp (za h a) (za h b) sp dp c9)) (zG_saw hP.1 (fun j => ?_) (fun y => by omega)) (fun _ => rfl) f1 f2 f3 f5 hqb (zEn_r (h := saw h b (zcp (za h a) (za h b) sp dp c9)) (t := 0) hKb) (fun m hm => zEn_saw hm) p1 p2) (zE_st hE (fun _ => rfl)) p3 hL (zos_st (h := h) (h' := saw h b (zcp (za h a) (za h b) sp dp c9)) (fun _ => rfl) o1) (zos_st (h := h) (h' := saw h b (zcp (za h a) (za h b) sp dp c9)) (fun _ => rfl) (zo_tl (zo_tl (zo_tl (zo_tl (zo_tl o2))))))
    unfold zcp
    split
    · exact hP.1.2.1 a _
    · exact hP.1.2.1 b _
