/-! ROWS OF THE z CALCULUS: rows of references are made, rows are copied, the two constant rows are read -/
section Z13
variable {G : zG} {d : Nat × Nat} {y : zM} {pc : Nat} {l : List (Option Value)} {st : List Value} {w : zS} {Q : Option Value → zS → Prop}
theorem zC_nat : Cond.native arraycopyName ∈ zT := zCh_2 (List.mem_of_getElem? (i := 213) (by decide +kernel)) rfl
theorem zC_sta : Cond.static arraycopyName ∈ zT := zCh_2 (List.mem_of_getElem? (i := 212) (by decide +kernel)) rfl
theorem zC_sys : Cond.initialized "java/lang/System" ∈ zT := zCh_1 (List.mem_of_getElem? (i := 13) (by decide +kernel)) rfl
theorem z_nn {z : Int32} (hz : ¬ z < 0) : z.toInt = (z.toNatClampNeg : Int) := by
  have hz0 : (0 : Int) ≤ z.toInt := by
    have := Int32.not_lt.mp hz
    simpa using Int32.le_iff_toInt_le.mp this
  show z.toInt = ((z.toInt.toNat : Nat) : Int)
  omega
/-- a stretch of a row of numbers goes into a row of the same kind -/
theorem z_copyi {i t a0 a n0 n1 : Nat} {ty : FieldType} {f g : Nat → Int32} {sp dp n n' : Int32} (htt : (zTy (gA G))[t]? = some (gA G t, ty)) (hprim : refKind ty = false) (hl : Cond.methodLink y.1.cls i arraycopyName ∈ zT) (hd : decode y.2.1 pc = .ok (.invokestatic i, 3))
    (ha0 : w.1 a0 = some (.inl (gA G t, n0, .inl f))) (ha1 : w.1 a = some (.inl (gA G t, n1, .inl g))) (h1 : ¬ sp < 0) (h2 : ¬ dp < 0) (h3 : ¬ n < 0) (h4 : sp.toNatClampNeg + n.toNatClampNeg ≤ n0) (h5 : dp.toNatClampNeg + n.toNatClampNeg ≤ n1)
    (hfit : ∀ H, zR G w H → ∀ j, fits ty (.int (f j)) = true) (hf : ∀ H, zR G w H → ∀ n2 f', (.inl (gA G t, n1, .inl (va_cpy f g sp.toNatClampNeg dp.toNatClampNeg n'.toNatClampNeg)) : va_E) = .inl (gA G 0, n2, .inl f') → ∀ j, fits .byte (.int (f' j)) = true) (hd1 : 1 ≤ d.1) (hd2 : (st.map fun v => v.category).sum + (nativeFrameWords "java/lang/System" "arraycopy" 5 + 11) ≤ d.2)
    (hn' : n' = n) (kk : zX G d y (pc + 3) l st (zUp w a (.inl (gA G t, n1, .inl (va_cpy f g sp.toNatClampNeg dp.toNatClampNeg n.toNatClampNeg)))) Q) : zX G d y pc l (.int n :: .int dp :: .ref a :: .int sp :: .ref a0 :: st) w Q := by
  subst hn'
  refine zW.put2 ha1 (fun p l0 e R s m args below meth c H locs cells slots Z ls hC hr1 hr2 hR hl0 kw => ?_) hf kk
  have hts := hC.2.2.2.2.2.1
  intro T hT X
  have hc0 : H[a0]? = some (vp_cell (gA G t) (n0, .inl f)) := z_arr hR ha0
  have hc1 : H[a]? = some (vp_cell (gA G t) (n1, .inl g)) := z_arr hR ha1
  obtain ⟨-, k0, hk0, cm0, hkk0⟩ := (z_ty hC t htt).1 n0 (fun j => .int (f j))
  obtain ⟨-, k1, hk1, cm1, hkk1⟩ := (z_ty hC t htt).1 n1 (fun j => .int (g j))
  obtain ⟨vm', X', step⟩ := X.arraycopy hC.1 hC.2.2.2.2.1 (hts _ hl) (hts _ zC_nat) (hts _ zC_sta) (hts _ zC_sys) (src := a0) (dst := a) (cs := vp_cell (gA G t) (n0, .inl f)) (cd := vp_cell (gA G t) (n1, .inl g)) (srcPos := sp) (destPos := dp) (n := n') (by rw [hT]; exact hc0) (by rw [hT]; exact hc1)
    (fun _ h => by cases h) (fun _ h => by cases h) (fun h => by cases h) (fun h => by cases h) hk0 hk1 hkk0 hkk1 (by simp [hprim]) h1 h2 h3
    (by rw [z_nn h1, z_nn h3]; show ¬ _ > ((arrV (gA G t) n0 (fun j => .int (f j))).slots.size : Int); rw [arrV_size]; omega)
    (by rw [z_nn h2, z_nn h3]; show ¬ _ > ((arrV (gA G t) n1 (fun j => .int (g j))).slots.size : Int); rw [arrV_size]; omega)
    (fun vm₁ _ i hi => by
      have e : (vp_cell (gA G t) (n0, .inl f)).slots.getD (sp.toNatClampNeg + i) .null = .int (f (sp.toNatClampNeg + i)) := by
        show (arrV (gA G t) n0 (fun j => .int (f j))).slots.getD _ _ = _
        rw [Array.getD_eq_getD_getElem?, arrV_read _ _ (by omega)]
        rfl
      refine ⟨?_, ?_⟩
      · rw [e]
        exact hfit H hR _
      · rw [e]
        exact trivial)
    (g := F0 m pc ls (.int n' :: .int dp :: .ref a :: .int sp :: .ref a0 :: st)) rfl (by rw [hC.2.2.2.1]; exact hl0.1) (rest := st) rfl (by rw [hC.2.1]; exact hd) (by omega) (by show 2 * 0 + _ + _ ≤ _; omega)
  have e1 : copied (vp_cell (gA G t) (n0, .inl f)) (vp_cell (gA G t) (n1, .inl g)) sp dp n' = vp_cell (gA G t) (n1, .inl (va_cpy f g sp.toNatClampNeg dp.toNatClampNeg n'.toNatClampNeg)) := va_copied (fun z => .int z) (gA G t) (gA G t) f g h4
  rw [e1] at X' step
  have hlt : a < H.size := (Array.getElem?_eq_some_iff.mp hc1).1
  obtain ⟨tt, b1, b2⟩ := kw (H.setIfInBounds a (vp_cell (gA G t) (n1, .inl (va_cpy f g sp.toNatClampNeg dp.toNatClampNeg n'.toNatClampNeg)))) _ (show (H.setIfInBounds a _)[a]? = some _ by simp [Array.getElem?_setIfInBounds, hlt]) (by simp) (fun q hq => by simp [Array.getElem?_setIfInBounds, Ne.symm hq]) (fun q hq => by
    obtain ⟨z, -, hz⟩ := List.mem_map.mp hq
    rw [← hz]) _ (by rw [← hT]; rfl) X'
  exact ⟨tt, step tt b1, b2⟩
end Z13
section Z13b
variable {G : zG} {d : Nat × Nat} {y : zM} {pc : Nat} {l : List (Option Value)} {st : List Value} {w : zS} {Q : Option Value → zS → Prop}
/-- a stretch of a row of wide numbers -/
theorem z_copyl {i a0 a n0 n1 : Nat} {f g : Nat → Int64} {sp dp n : Int32} (hl : Cond.methodLink y.1.cls i arraycopyName ∈ zT) (hd : decode y.2.1 pc = .ok (.invokestatic i, 3))
    (ha0 : w.1 a0 = some (.inl (gA G 2, n0, .inr (.inl f)))) (ha1 : w.1 a = some (.inl (gA G 2, n1, .inr (.inl g)))) (h1 : ¬ sp < 0) (h2 : ¬ dp < 0) (h3 : ¬ n < 0) (h4 : sp.toNatClampNeg + n.toNatClampNeg ≤ n0) (h5 : dp.toNatClampNeg + n.toNatClampNeg ≤ n1)
    (hd1 : 1 ≤ d.1) (hd2 : (st.map fun v => v.category).sum + (nativeFrameWords "java/lang/System" "arraycopy" 5 + 11) ≤ d.2)
    (kk : zX G d y (pc + 3) l st (zUp w a (.inl (gA G 2, n1, .inr (.inl (va_cpy f g sp.toNatClampNeg dp.toNatClampNeg n.toNatClampNeg))))) Q) : zX G d y pc l (.int n :: .int dp :: .ref a :: .int sp :: .ref a0 :: st) w Q := by
  refine zW.put2 ha1 (fun p l0 e R s m args below meth c H locs cells slots Z ls hC hr1 hr2 hR hl0 kw => ?_) (fun H hR n2 f2 h => by simp at h) kk
  have hts := hC.2.2.2.2.2.1
  intro T hT X
  have hc0 : H[a0]? = some (vp_cell (gA G 2) (n0, .inr (.inl f))) := z_arr hR ha0
  have hc1 : H[a]? = some (vp_cell (gA G 2) (n1, .inr (.inl g))) := z_arr hR ha1
  obtain ⟨-, k0, hk0, cm0, hkk0⟩ := (z_ty hC 2 rfl).1 n0 (fun j => .long (f j))
  obtain ⟨-, k1, hk1, cm1, hkk1⟩ := (z_ty hC 2 rfl).1 n1 (fun j => .long (g j))
  obtain ⟨vm', X', step⟩ := X.arraycopy hC.1 hC.2.2.2.2.1 (hts _ hl) (hts _ zC_nat) (hts _ zC_sta) (hts _ zC_sys) (src := a0) (dst := a) (cs := vp_cell (gA G 2) (n0, .inr (.inl f))) (cd := vp_cell (gA G 2) (n1, .inr (.inl g))) (srcPos := sp) (destPos := dp) (n := n) (by rw [hT]; exact hc0) (by rw [hT]; exact hc1)
    (fun _ h => by cases h) (fun _ h => by cases h) (fun h => by cases h) (fun h => by cases h) hk0 hk1 hkk0 hkk1 (by decide) h1 h2 h3
    (by rw [z_nn h1, z_nn h3]; show ¬ _ > ((arrV (gA G 2) n0 (fun j => .long (f j))).slots.size : Int); rw [arrV_size]; omega)
    (by rw [z_nn h2, z_nn h3]; show ¬ _ > ((arrV (gA G 2) n1 (fun j => .long (g j))).slots.size : Int); rw [arrV_size]; omega)
    (fun vm₁ _ i hi => by
      have e : (vp_cell (gA G 2) (n0, .inr (.inl f))).slots.getD (sp.toNatClampNeg + i) .null = .long (f (sp.toNatClampNeg + i)) := by
        show (arrV (gA G 2) n0 (fun j => .long (f j))).slots.getD _ _ = _
        rw [Array.getD_eq_getD_getElem?, arrV_read _ _ (by omega)]
        rfl
      refine ⟨?_, ?_⟩
      · rw [e]
        rfl
      · rw [e]
        exact trivial)
    (g := F0 m pc ls (.int n :: .int dp :: .ref a :: .int sp :: .ref a0 :: st)) rfl (by rw [hC.2.2.2.1]; exact hl0.1) (rest := st) rfl (by rw [hC.2.1]; exact hd) (by omega) (by show 2 * 0 + _ + _ ≤ _; omega)
  have e1 : copied (vp_cell (gA G 2) (n0, .inr (.inl f))) (vp_cell (gA G 2) (n1, .inr (.inl g))) sp dp n = vp_cell (gA G 2) (n1, .inr (.inl (va_cpy f g sp.toNatClampNeg dp.toNatClampNeg n.toNatClampNeg))) := va_copied (fun z => .long z) (gA G 2) (gA G 2) f g h4
  rw [e1] at X' step
  have hlt : a < H.size := (Array.getElem?_eq_some_iff.mp hc1).1
  obtain ⟨tt, b1, b2⟩ := kw (H.setIfInBounds a (vp_cell (gA G 2) (n1, .inr (.inl (va_cpy f g sp.toNatClampNeg dp.toNatClampNeg n.toNatClampNeg))))) _ (show (H.setIfInBounds a _)[a]? = some _ by simp [Array.getElem?_setIfInBounds, hlt]) (by simp) (fun q hq => by simp [Array.getElem?_setIfInBounds, Ne.symm hq]) (fun q hq => by
    obtain ⟨z, -, hz⟩ := List.mem_map.mp hq
    rw [← hz]) _ (by rw [← hT]; rfl) X'
  exact ⟨tt, step tt b1, b2⟩
/-- out of the constant row FIRST -/
theorem z_copyS {i a n1 : Nat} {g : Nat → Int32} {sp dp n : Int32} (hne : gA G 1 ≠ gA G 0) (hl : Cond.methodLink y.1.cls i arraycopyName ∈ zT) (hd : decode y.2.1 pc = .ok (.invokestatic i, 3))
    (ha1 : w.1 a = some (.inl (gA G 1, n1, .inl g))) (h1 : ¬ sp < 0) (h2 : ¬ dp < 0) (h3 : ¬ n < 0) (h4 : sp.toNatClampNeg + n.toNatClampNeg ≤ 8) (h5 : dp.toNatClampNeg + n.toNatClampNeg ≤ n1)
    (hd1 : 1 ≤ d.1) (hd2 : (st.map fun v => v.category).sum + (nativeFrameWords "java/lang/System" "arraycopy" 5 + 11) ≤ d.2)
    (kk : zX G d y (pc + 3) l st (zUp w a (.inl (gA G 1, n1, .inl (va_cpy (fun j => zFIRST.getD j 0) g sp.toNatClampNeg dp.toNatClampNeg n.toNatClampNeg)))) Q) : zX G d y pc l (.int n :: .int dp :: .ref a :: .int sp :: .ref G.2.2.2.1.1 :: st) w Q := by
  refine zW.put2 ha1 (fun p l0 e R s m args below meth c H locs cells slots Z ls hC hr1 hr2 hR hl0 kw => ?_) (fun H hR n2 f2 h => by simp only [Sum.inl.injEq, Prod.mk.injEq] at h; exact absurd h.1 hne) kk
  have hts := hC.2.2.2.2.2.1
  obtain ⟨cs, q1, q2, q3, q4, q5, q6, q7⟩ := hC.2.2.2.2.2.2.2.2.2.2.2.2.1
  have hlow : G.2.2.2.1.1 < gN G := Nat.not_le.mp q7
  intro T hT X
  have hc0 : H[G.2.2.2.1.1]? = some cs := by rw [hR.2.2.2.1 _ hlow]; exact q1
  have hc1 : H[a]? = some (vp_cell (gA G 1) (n1, .inl g)) := z_arr hR ha1
  obtain ⟨hob, k0, hk0, cm0, hkk0⟩ := q2
  obtain ⟨-, k1, hk1, cm1, hkk1⟩ := (z_ty hC 1 rfl).1 n1 (fun j => .int (g j))
  obtain ⟨vm', X', step⟩ := X.arraycopy hC.1 hC.2.2.2.2.1 (hts _ hl) (hts _ zC_nat) (hts _ zC_sta) (hts _ zC_sys) (src := G.2.2.2.1.1) (dst := a) (cs := cs) (cd := vp_cell (gA G 1) (n1, .inl g)) (srcPos := sp) (destPos := dp) (n := n) (by rw [hT]; exact hc0) (by rw [hT]; exact hc1)
    hob (fun _ h => by cases h) q3 (fun h => by cases h) hk0 hk1 hkk0 hkk1 (by decide) h1 h2 h3
    (by rw [z_nn h1, z_nn h3]; omega)
    (by rw [z_nn h2, z_nn h3]; show ¬ _ > ((arrV (gA G 1) n1 (fun j => .int (g j))).slots.size : Int); rw [arrV_size]; omega)
    (fun vm₁ _ i hi => by
      have e : cs.slots.getD (sp.toNatClampNeg + i) .null = .int (zFIRST.getD (sp.toNatClampNeg + i) 0) := by
        rw [Array.getD_eq_getD_getElem?, q6 _ (by omega)]
        rfl
      refine ⟨?_, ?_⟩
      · rw [e]
        rfl
      · rw [e]
        exact trivial)
    (g := F0 m pc ls (.int n :: .int dp :: .ref a :: .int sp :: .ref G.2.2.2.1.1 :: st)) rfl (by rw [hC.2.2.2.1]; exact hl0.1) (rest := st) rfl (by rw [hC.2.1]; exact hd) (by omega) (by show 2 * 0 + _ + _ ≤ _; omega)
  have e1 : copied cs (vp_cell (gA G 1) (n1, .inl g)) sp dp n = vp_cell (gA G 1) (n1, .inl (va_cpy (fun j => zFIRST.getD j 0) g sp.toNatClampNeg dp.toNatClampNeg n.toNatClampNeg)) := va_copiedX (fun z => .int z) cs (gA G 1) (fun j => zFIRST.getD j 0) g (n0 := 8) (fun j hj => q6 j hj) h4
  rw [e1] at X' step
  have hlt : a < H.size := (Array.getElem?_eq_some_iff.mp hc1).1
  obtain ⟨tt, b1, b2⟩ := kw (H.setIfInBounds a (vp_cell (gA G 1) (n1, .inl (va_cpy (fun j => zFIRST.getD j 0) g sp.toNatClampNeg dp.toNatClampNeg n.toNatClampNeg)))) _ (show (H.setIfInBounds a _)[a]? = some _ by simp [Array.getElem?_setIfInBounds, hlt]) (by simp) (fun q hq => by simp [Array.getElem?_setIfInBounds, Ne.symm hq]) (fun q hq => by
    obtain ⟨z, -, hz⟩ := List.mem_map.mp hq
    rw [← hz]) _ (by rw [← hT]; rfl) X'
  exact ⟨tt, step tt b1, b2⟩
/-- the constant rows -/
theorem z_gets {i : Nat} {n dd : String} {v : Value} (hz : ∀ s : State, zK G s → va_Z "QuorumLedger$Hasher" n dd v (gU G) s (gH G)) (hl : Cond.fieldLink y.1.cls i "QuorumLedger$Hasher" n dd ∈ zT) (hd : decode y.2.1 pc = .ok (.getstatic i, 3)) (kk : zX G d y (pc + 3) l (v :: st) w Q) : zX G d y pc l st w Q := by
  refine zX.same (fun p l0 e R s m args below meth c H locs cells slots Z ls hC hR hl0 kw => ?_) kk
  obtain ⟨cf, kf, fi, f, a, cell, h1, h2, h3, h4, h5, h6, h7, h8⟩ := hz s hC.2.2.2.2.2.2.2.2
  have hlow : a < gN G := Nat.not_le.mp h8
  exact W.gets hC.1 hC.2.1 hC.2.2.2.2.1 (hC.2.2.2.2.2.1 _ hl) h1 h2 h3 h4 (by rw [hR.2.2.2.1 a hlow]; exact h5) (fun e => by rw [e] at h6; cases h6) h7 rfl hd kw
theorem z_sald2 {i : Int32} (hd : decode y.2.1 pc = .ok (.iaload, 1)) (hin : vp_in i 64) (kk : zX G d y (pc + 1) l (.int (zADDED.getD i.toNatClampNeg 0) :: st) w Q) : zX G d y pc l (.int i :: .ref G.2.2.2.1.2.1 :: st) w Q := by
  refine zX.same (fun p l0 e R s m args below meth c H locs cells slots Z ls hC hR hl0 kw => ?_) kk
  obtain ⟨cs, q1, q2, q3, q4, q5, q6, q7⟩ := hC.2.2.2.2.2.2.2.2.2.2.2.2.2.1
  have hlow : G.2.2.2.1.2.1 < gN G := Nat.not_le.mp q7
  have hlt : i.toNatClampNeg < 64 := Nat.not_le.mp fun q => hin (Or.inr q)
  exact W.iald (v := .int (zADDED.getD i.toNatClampNeg 0)) hC.1 hC.2.1 (by rw [hR.2.2.2.1 _ hlow]; exact q1) q2 q3 (fun q => hin (q.imp id (fun q => by omega))) (q6 _ hlt) rfl rfl hd kw
/-- a row of references is made -/
theorem z_anew {i t : Nat} {C : String} {n : Int32} (htt : (zTy (gA G))[t]? = some (gA G t, .object C)) (hov : ∀ s : State, zK G s → va_AO C s) (hl : Cond.classLink y.1.cls i C ∈ zT) (hd : decode y.2.1 pc = .ok (.anewarray i, 3)) (hn : ¬ n < 0) (hb : n.toNatClampNeg ≤ 1000000)
    (kk : zX G d y (pc + 3) l (.ref w.2.1 :: st) (zNew w (.inl (gA G t, n.toNatClampNeg, .inr (.inr (.inr (.inr (fun _ => none)))))) n.toNatClampNeg) Q) : zX G d y pc l (.int n :: st) w Q := by
  refine zW.new (fun p l0 e R s m args below meth c H locs cells slots Z ls hC hR hc1 hc2 kw => ?_) (fun n2 f2 h => by simp at h) kk
  have hts := hC.2.2.2.2.2.1
  refine W.anew hC.1 hC.2.1 hC.2.2.2.2.1 (hts _ hl) (va_AO.use (hov s hC.2.2.2.2.2.2.2.2)) rfl hd rfl hn (by omega) hc1 hc2 fun cA kA comp g1 g2 g3 g4 => ?_
  obtain ⟨kA2, comp2, r1, r2, r3, r4⟩ := (z_ty hC t htt).2
  have hcA : cA = gA G t := Option.some.inj (g1.symm.trans r4)
  subst hcA
  have hsz := hR.2.1
  rw [show (.ref H.size : Value) = .ref w.2.1 by rw [hsz]]
  refine kw _ ?_ (by simp) (fun q hq => by rw [Array.getElem?_push, if_neg (Nat.ne_of_lt hq)])
  show (H.push _)[w.2.1]? = some (vp_cell _ _)
  rw [← hsz, vp_cell_q, ← arrV_new]
  simp
  exact Or.inr rfl
theorem z_anewB {i : Nat} {n : Int32} (hl : Cond.classLink y.1.cls i (FieldType.array .byte).toString ∈ zT) (hd : decode y.2.1 pc = .ok (.anewarray i, 3)) (hn : ¬ n < 0) (hb : n.toNatClampNeg ≤ 1000000)
    (kk : zX G d y (pc + 3) l (.ref w.2.1 :: st) (zNew w (.inl (gA G 6, n.toNatClampNeg, .inr (.inr (.inr (.inr (fun _ => none)))))) n.toNatClampNeg) Q) : zX G d y pc l (.int n :: st) w Q := by
  refine zW.new (fun p l0 e R s m args below meth c H locs cells slots Z ls hC hR hc1 hc2 kw => ?_) (fun n2 f2 h => by simp at h) kk
  have hts := hC.2.2.2.2.2.1
  have hBB := hC.2.2.2.2.2.2.2.2.2.2.2.2.2.2.2.2.2
  refine W.anewA hC.1 hC.2.1 hC.2.2.2.2.1 (hts _ hl) hBB.1 rfl hd rfl hn (by omega) hc1 hc2 fun cA kA comp g1 g2 g3 g4 => ?_
  have r4 : s.vm.findClass ("[" ++ (FieldType.array .byte).toString) = some (gA G 6) := (z_ty hC 6 rfl).2
  have hcA : cA = gA G 6 := Option.some.inj (g1.symm.trans r4)
  subst hcA
  have hsz := hR.2.1
  rw [show (.ref H.size : Value) = .ref w.2.1 by rw [hsz]]
  refine kw _ ?_ (by simp) (fun q hq => by rw [Array.getElem?_push, if_neg (Nat.ne_of_lt hq)])
  show (H.push _)[w.2.1]? = some (vp_cell _ _)
  rw [← hsz, vp_cell_q, ← arrV_new]
  simp
  exact Or.inr rfl
/-- a byte row goes into a row of byte rows -/
theorem z_aastB {a n v nv : Nat} {fv : Nat → Int32} {f : Nat → Option Nat} {i : Int32} (hd : decode y.2.1 pc = .ok (.aastore, 1)) (ha : w.1 a = some (.inl (gA G 6, n, .inr (.inr (.inr (.inr f)))))) (hv : w.1 v = some (.inl (gA G 0, nv, .inl fv))) (hin : vp_in i n) (kk : zX G d y (pc + 1) l st (zUp w a (.inl (gA G 6, n, .inr (.inr (.inr (.inr (va_up f i.toNatClampNeg (some v)))))))) Q) : zX G d y pc l (.ref v :: .int i :: .ref a :: st) w Q := by
  refine zW.put ha (fun p l0 e R s m args below meth c H locs cells slots Z ls hC _ _ hR hl0 kw => ?_) (fun n f h => by simp at h) kk
  have hlt : i.toNatClampNeg < n := Nat.not_le.mp fun q => hin (Or.inr q)
  have h0 : ¬ i < 0 := fun q => hin (Or.inl q)
  obtain ⟨-, ⟨k6, b1, b2⟩, ⟨k0, b3⟩, b4⟩ := hC.2.2.2.2.2.2.2.2.2.2.2.2.2.2.2.2.2
  refine W.aast hC.1 hC.2.1 (z_arr hR ha) (fun q h => by cases h) (fun h => by cases h) b1 b2 rfl b3 ⟨h0, by show _ < (arrV _ _ _).slots.size; rw [arrV_size]; exact hlt⟩ (z_arr hR hv) (fun q h => by cases h) b3 b4 rfl rfl hd fun H1 e z oq => ?_
  refine kw H1 _ ?_ z oq (fun q hq => by rw [List.mem_singleton.mp hq])
  show H1[a]? = some (vp_cell _ _)
  rw [e, vp_cell_q, vp_cell_q, arrV_store]
  congr 2
  funext q
  by_cases hq : q = i.toNatClampNeg
  · subst hq
    simp [updV, va_up, va_rf]
  · simp [updV, va_up, hq]
end Z13b
