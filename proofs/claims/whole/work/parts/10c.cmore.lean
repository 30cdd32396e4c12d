/-! ROWS OF THE c CALCULUS: what is made, copies, constant rows -/
theorem objI : Cond.instanceMethod Lib.objectInit ∈ zT := zCh_1 (List.mem_of_getElem? (i := 24) (by decide +kernel)) rfl
theorem objC : Cond.code Lib.objectInit ⟨#[0xb1]⟩ 1 none ∈ zT := zCh_1 (List.mem_of_getElem? (i := 25) rfl) rfl
theorem arrC0 : Cond.arrayClass .byte ∈ zT := zCh_1 (List.mem_of_getElem? (i := 55) (by decide +kernel)) rfl
theorem arrC1 : Cond.arrayClass .int ∈ zT := zCh_1 (List.mem_of_getElem? (i := 56) (by decide +kernel)) rfl
theorem arrC2 : Cond.arrayClass .long ∈ zT := zCh_2 (List.mem_of_getElem? (i := 98) (by decide +kernel)) rfl
theorem arrC3 : Cond.arrayClass .boolean ∈ zT := zCh_2 (List.mem_of_getElem? (i := 37) (by decide +kernel)) rfl
section CY
variable {G : zG} {o : cO} {d : Nat × Nat} {y : zM} {pc : Nat} {l : List (Option Value)} {st : List Value} {s : cS} {Q : Option Value → cS → Prop}
theorem c_gets1 {i : Nat} (hl : Cond.fieldLink y.1.cls i "QuorumLedger$Hasher" "FIRST" "[I" ∈ zT) (hd : decode y.2.1 pc = .ok (.getstatic i, 3)) (kk : cX G o d y (pc + 3) l (.ref G.2.2.2.1.1 :: st) s Q) : cX G o d y pc l st s Q := fun w hw => z_gets (fun s h => h.2.2.1) hl hd (kk w hw)
theorem c_gets2 {i : Nat} (hl : Cond.fieldLink y.1.cls i "QuorumLedger$Hasher" "ADDED" "[I" ∈ zT) (hd : decode y.2.1 pc = .ok (.getstatic i, 3)) (kk : cX G o d y (pc + 3) l (.ref G.2.2.2.1.2.1 :: st) s Q) : cX G o d y pc l st s Q := fun w hw => z_gets (fun s h => h.2.2.2.1) hl hd (kk w hw)
theorem c_sald2 {i : Int32} (hd : decode y.2.1 pc = .ok (.iaload, 1)) (hin : vp_in i 64) (kk : cX G o d y (pc + 1) l (.int (zADDED.getD i.toNatClampNeg 0) :: st) s Q) : cX G o d y pc l (.int i :: .ref G.2.2.2.1.2.1 :: st) s Q := fun w hw => z_sald2 hd hin (kk w hw)
theorem c_copyS {i : Nat} {r : Option Nat} {sp dp n : Int32} (hG : zOK G) (hd : decode y.2.1 pc = .ok (.invokestatic i, 3)) (hl : Cond.methodLink y.1.cls i arraycopyName ∈ zT) (hd1 : 1 ≤ d.1) (hd2 : (st.map fun v => v.category).sum + (nativeFrameWords "java/lang/System" "arraycopy" 5 + 11) ≤ d.2)
    (hr : cis s r 21 ∧ (¬ sp < 0 ∧ ¬ dp < 0 ∧ ¬ n < 0) ∧ sp.toNatClampNeg + n.toNatClampNeg ≤ 8 ∧ dp.toNatClampNeg + n.toNatClampNeg ≤ cL s (za r)) (kk : cX G o d y (pc + 3) l st (csArow s (za r) (va_cpy (fun j => zFIRST.getD j 0) (cA s (za r)) sp.toNatClampNeg dp.toNatClampNeg n.toNatClampNeg)) Q) : cX G o d y pc l (.int n :: .int dp :: va_rf r :: .int sp :: .ref G.2.2.2.1.1 :: st) s Q := by
  intro w hw
  obtain ⟨h1, ⟨h2, h3, h4⟩, h5, h6⟩ := hr
  obtain ⟨a, rfl, ha⟩ := h1.out
  exact z_copyS (a := a) hG.1 hl hd ((hw.1 a (by omega)).trans (congrArg some (cenc_A (t := 1) ha (by decide)))) h2 h3 h4 h5 h6 hd1 hd2 (kk _ (hw.upA (t := 1) ha (by decide) _))
theorem c_copy1 {i : Nat} {r0 r : Option Nat} {sp dp n : Int32} (hG : zOK G) (hd : decode y.2.1 pc = .ok (.invokestatic i, 3)) (hl : Cond.methodLink y.1.cls i arraycopyName ∈ zT) (hd1 : 1 ≤ d.1) (hd2 : (st.map fun v => v.category).sum + (nativeFrameWords "java/lang/System" "arraycopy" 5 + 11) ≤ d.2)
    (hr : cis s r0 21 ∧ cis s r 21 ∧ (¬ sp < 0 ∧ ¬ dp < 0 ∧ ¬ n < 0) ∧ sp.toNatClampNeg + n.toNatClampNeg ≤ cL s (za r0) ∧ dp.toNatClampNeg + n.toNatClampNeg ≤ cL s (za r)) (kk : cX G o d y (pc + 3) l st (csArow s (za r) (va_cpy (cA s (za r0)) (cA s (za r)) sp.toNatClampNeg dp.toNatClampNeg n.toNatClampNeg)) Q) : cX G o d y pc l (.int n :: .int dp :: va_rf r :: .int sp :: va_rf r0 :: st) s Q := by
  intro w hw
  obtain ⟨h0, h1, ⟨h2, h3, h4⟩, h5, h6⟩ := hr
  obtain ⟨a, rfl, ha⟩ := h1.out
  obtain ⟨b, rfl, hb⟩ := h0.out
  exact z_copyi (t := 1) (ty := .int) (a0 := b) (a := a) (n' := n) rfl rfl hl hd ((hw.1 b (by omega)).trans (congrArg some (cenc_A (t := 1) hb (by decide)))) ((hw.1 a (by omega)).trans (congrArg some (cenc_A (t := 1) ha (by decide)))) h2 h3 h4 h5 h6 (fun _ _ _ => rfl) (fun H hR n2 f2 h => by simp only [Sum.inl.injEq, Prod.mk.injEq] at h; exact absurd h.1 hG.1) hd1 hd2 rfl (kk _ (hw.upA (t := 1) ha (by decide) _))
theorem c_copy0 {i : Nat} {r0 r : Option Nat} {sp dp n : Int32} (hG : zOK G) (hd : decode y.2.1 pc = .ok (.invokestatic i, 3)) (hl : Cond.methodLink y.1.cls i arraycopyName ∈ zT) (hd1 : 1 ≤ d.1) (hd2 : (st.map fun v => v.category).sum + (nativeFrameWords "java/lang/System" "arraycopy" 5 + 11) ≤ d.2)
    (hr : cis s r0 20 ∧ cis s r 20 ∧ (¬ sp < 0 ∧ ¬ dp < 0 ∧ ¬ n < 0) ∧ sp.toNatClampNeg + n.toNatClampNeg ≤ cL s (za r0) ∧ dp.toNatClampNeg + n.toNatClampNeg ≤ cL s (za r)) (kk : cX G o d y (pc + 3) l st (csArow s (za r) (va_cpy (cA s (za r0)) (cA s (za r)) sp.toNatClampNeg dp.toNatClampNeg n.toNatClampNeg)) Q) : cX G o d y pc l (.int n :: .int dp :: va_rf r :: .int sp :: va_rf r0 :: st) s Q := by
  intro w hw
  obtain ⟨h0, h1, ⟨h2, h3, h4⟩, h5, h6⟩ := hr
  obtain ⟨a, rfl, ha⟩ := h1.out
  obtain ⟨b, rfl, hb⟩ := h0.out
  have eb := (hw.1 b (by omega)).trans (congrArg some (cenc_A (t := 0) hb (by decide)))
  have ea := (hw.1 a (by omega)).trans (congrArg some (cenc_A (t := 0) ha (by decide)))
  refine z_copyi (t := 0) (ty := .byte) (a0 := b) (a := a) (n' := n) rfl rfl hl hd eb ea h2 h3 h4 h5 h6 (fun H hR j => hR.2.2.2.2 b _ _ eb j) (fun H hR n2 f2 h => ?_) hd1 hd2 rfl (kk _ (hw.upA (t := 0) ha (by decide) _))
  simp only [Sum.inl.injEq, Prod.mk.injEq, true_and] at h
  obtain ⟨-, rfl⟩ := h
  intro j
  unfold va_cpy
  split
  · exact hR.2.2.2.2 b _ _ eb _
  · exact hR.2.2.2.2 a _ _ ea _
theorem c_copy2 {i : Nat} {r0 r : Option Nat} {sp dp n : Int32} (hG : zOK G) (hd : decode y.2.1 pc = .ok (.invokestatic i, 3)) (hl : Cond.methodLink y.1.cls i arraycopyName ∈ zT) (hd1 : 1 ≤ d.1) (hd2 : (st.map fun v => v.category).sum + (nativeFrameWords "java/lang/System" "arraycopy" 5 + 11) ≤ d.2)
    (hr : cis s r0 22 ∧ cis s r 22 ∧ (¬ sp < 0 ∧ ¬ dp < 0 ∧ ¬ n < 0) ∧ sp.toNatClampNeg + n.toNatClampNeg ≤ cL s (za r0) ∧ dp.toNatClampNeg + n.toNatClampNeg ≤ cL s (za r)) (kk : cX G o d y (pc + 3) l st (csJrow s (za r) (va_cpy (cJ s (za r0)) (cJ s (za r)) sp.toNatClampNeg dp.toNatClampNeg n.toNatClampNeg)) Q) : cX G o d y pc l (.int n :: .int dp :: va_rf r :: .int sp :: va_rf r0 :: st) s Q := by
  intro w hw
  obtain ⟨h0, h1, ⟨h2, h3, h4⟩, h5, h6⟩ := hr
  obtain ⟨a, rfl, ha⟩ := h1.out
  obtain ⟨b, rfl, hb⟩ := h0.out
  exact z_copyl (a0 := b) (a := a) hl hd ((hw.1 b (by omega)).trans (congrArg some (cenc_J hb))) ((hw.1 a (by omega)).trans (congrArg some (cenc_J ha))) h2 h3 h4 h5 h6 hd1 hd2 (kk _ (hw.upJ ha _))
theorem c_aastB {r v : Option Nat} {i : Int32} (hd : decode y.2.1 pc = .ok (.aastore, 1)) (hr : cis s r 26 ∧ vp_in i (cL s (za r)) ∧ cis s v 20) (kk : cX G o d y (pc + 1) l st (csP s (za r) i.toNatClampNeg v) Q) : cX G o d y pc l (va_rf v :: .int i :: va_rf r :: st) s Q := by
  intro w hw
  obtain ⟨a, rfl, ha⟩ := hr.1.out
  obtain ⟨b, rfl, hb⟩ := hr.2.2.out
  exact z_aastB (a := a) (v := b) hd ((hw.1 a (by omega)).trans (congrArg some (cenc_P (t := 6) ha (by decide)))) ((hw.1 b (by omega)).trans (congrArg some (cenc_A (t := 0) hb (by decide)))) hr.2.1 (kk _ (hw.upP (t := 6) ha (by decide) _))
theorem cenc_newA {t n : Nat} (ht : t = 0 ∨ t = 1 ∨ t = 3) : cenc G (csNew s (20 + t) n) (cn s) = .inl (gA G t, n, .inl (fun _ => 0)) := by
  rw [cenc_A (t := t) (by simp [cK, csNew, up1]) ht]
  simp [cL, cA, csNew, up1]
theorem cenc_newJ {n : Nat} : cenc G (csNew s 22 n) (cn s) = .inl (gA G 2, n, .inr (.inl (fun _ => 0))) := by
  rw [cenc_J (by simp [cK, csNew, up1])]
  simp [cL, cJ, csNew, up1]
theorem cenc_newP {t n : Nat} (ht : 4 ≤ t) : cenc G (csNew s (20 + t) n) (cn s) = .inl (gA G t, n, .inr (.inr (.inr (.inr (fun _ => none))))) := by
  rw [cenc_P (t := t) (by simp [cK, csNew, up1]) ht]
  simp [cL, cP, csNew, up1]
theorem c_newa0 {n : Int32} (hd : decode y.2.1 pc = .ok (.newarray .byte, 2)) (hn : ¬ n < 0) (hb : n.toNatClampNeg ≤ 1000000) (kk : cX G o d y (pc + 2) l (va_rf (some (cn s)) :: st) (csNew s 20 n.toNatClampNeg) Q) : cX G o d y pc l (.int n :: st) s Q := by
  intro w hw
  have hm := hw.new 20 n.toNatClampNeg (by decide)
  rw [cenc_newA (t := 0) (by decide)] at hm
  have e := hw.2.2.1
  refine z_newa (t := 0) (ty := .byte) (N := n.toNatClampNeg) (a0 := (n.toNatClampNeg, .inl (fun _ => 0))) rfl rfl (fun _ h => h) arrC0 (fun _ => rfl) (fun f h j => by cases h; rfl) hd hn rfl (by show n.toNatClampNeg * 1 ≤ _; omega) rfl ?_
  rw [e]
  exact kk _ hm
theorem c_newa1 {n : Int32} (hd : decode y.2.1 pc = .ok (.newarray .int, 2)) (hn : ¬ n < 0) (hb : n.toNatClampNeg ≤ 1000000) (kk : cX G o d y (pc + 2) l (va_rf (some (cn s)) :: st) (csNew s 21 n.toNatClampNeg) Q) : cX G o d y pc l (.int n :: st) s Q := by
  intro w hw
  have hm := hw.new 21 n.toNatClampNeg (by decide)
  rw [cenc_newA (t := 1) (by decide)] at hm
  have e := hw.2.2.1
  refine z_newa (t := 1) (ty := .int) (N := n.toNatClampNeg) (a0 := (n.toNatClampNeg, .inl (fun _ => 0))) rfl rfl (fun _ h => h) arrC1 (fun _ => rfl) (fun f h j => by cases h; rfl) hd hn rfl (by show n.toNatClampNeg * 4 ≤ _; omega) rfl ?_
  rw [e]
  exact kk _ hm
theorem c_newa3 {n : Int32} (hd : decode y.2.1 pc = .ok (.newarray .boolean, 2)) (hn : ¬ n < 0) (hb : n.toNatClampNeg ≤ 1000000) (kk : cX G o d y (pc + 2) l (va_rf (some (cn s)) :: st) (csNew s 23 n.toNatClampNeg) Q) : cX G o d y pc l (.int n :: st) s Q := by
  intro w hw
  have hm := hw.new 23 n.toNatClampNeg (by decide)
  rw [cenc_newA (t := 3) (by decide)] at hm
  have e := hw.2.2.1
  refine z_newa (t := 3) (ty := .boolean) (N := n.toNatClampNeg) (a0 := (n.toNatClampNeg, .inl (fun _ => 0))) rfl rfl (fun _ h => h) arrC3 (fun _ => rfl) (fun f h j => by cases h; rfl) hd hn rfl (by show n.toNatClampNeg * 1 ≤ _; omega) rfl ?_
  rw [e]
  exact kk _ hm
theorem c_newa2 {n : Int32} (hd : decode y.2.1 pc = .ok (.newarray .long, 2)) (hn : ¬ n < 0) (hb : n.toNatClampNeg ≤ 1000000) (kk : cX G o d y (pc + 2) l (va_rf (some (cn s)) :: st) (csNew s 22 n.toNatClampNeg) Q) : cX G o d y pc l (.int n :: st) s Q := by
  intro w hw
  have hm := hw.new 22 n.toNatClampNeg (by decide)
  rw [cenc_newJ] at hm
  have e := hw.2.2.1
  refine z_newa (t := 2) (ty := .long) (N := n.toNatClampNeg) (a0 := (n.toNatClampNeg, .inr (.inl (fun _ => 0)))) rfl rfl (fun _ h => h) arrC2 (fun _ => rfl) (fun f h j => by cases h) hd hn rfl (by show n.toNatClampNeg * 8 ≤ _; omega) rfl ?_
  rw [e]
  exact kk _ hm
theorem c_anew4 {i : Nat} {n : Int32} (hl : Cond.classLink y.1.cls i "QuorumLedger$Message" ∈ zT) (hd : decode y.2.1 pc = .ok (.anewarray i, 3)) (hn : ¬ n < 0) (hb : n.toNatClampNeg ≤ 1000000) (kk : cX G o d y (pc + 3) l (va_rf (some (cn s)) :: st) (csNew s 24 n.toNatClampNeg) Q) : cX G o d y pc l (.int n :: st) s Q := by
  intro w hw
  have hm := hw.new 24 n.toNatClampNeg (by decide)
  rw [cenc_newP (t := 4) (by decide)] at hm
  have e := hw.2.2.1
  refine z_anew (t := 4) (C := "QuorumLedger$Message") rfl (fun s h => h.2.2.2.2.2.2.2.1) hl hd hn hb ?_
  rw [e]
  exact kk _ hm
theorem c_anew5 {i : Nat} {n : Int32} (hl : Cond.classLink y.1.cls i "QuorumLedger$Node" ∈ zT) (hd : decode y.2.1 pc = .ok (.anewarray i, 3)) (hn : ¬ n < 0) (hb : n.toNatClampNeg ≤ 1000000) (kk : cX G o d y (pc + 3) l (va_rf (some (cn s)) :: st) (csNew s 25 n.toNatClampNeg) Q) : cX G o d y pc l (.int n :: st) s Q := by
  intro w hw
  have hm := hw.new 25 n.toNatClampNeg (by decide)
  rw [cenc_newP (t := 5) (by decide)] at hm
  have e := hw.2.2.1
  refine z_anew (t := 5) (C := "QuorumLedger$Node") rfl (fun s h => h.2.2.2.2.2.2.2.2.1) hl hd hn hb ?_
  rw [e]
  exact kk _ hm
theorem c_anew6 {i : Nat} {n : Int32} (hl : Cond.classLink y.1.cls i "[B" ∈ zT) (hd : decode y.2.1 pc = .ok (.anewarray i, 3)) (hn : ¬ n < 0) (hb : n.toNatClampNeg ≤ 1000000) (kk : cX G o d y (pc + 3) l (va_rf (some (cn s)) :: st) (csNew s 26 n.toNatClampNeg) Q) : cX G o d y pc l (.int n :: st) s Q := by
  intro w hw
  have hm := hw.new 26 n.toNatClampNeg (by decide)
  rw [cenc_newP (t := 6) (by decide)] at hm
  have e := hw.2.2.1
  refine z_anewB hl hd hn hb ?_
  rw [e]
  exact kk _ hm
theorem c_new0 {i : Nat} (hl : Cond.classLink y.1.cls i "QuorumLedger$Book" ∈ zT) (hd : decode y.2.1 pc = .ok (.new i, 3)) (kk : cX G o d y (pc + 3) l (va_rf (some (cn s)) :: st) (csNew s 1 6) Q) : cX G o d y pc l st s Q := c_new (ci := 0) (C := RX0) (T := TX0) (N := 6) rfl inT0 ftT0 hl (zCh_1 (List.mem_of_getElem? (i := 134) (by decide +kernel)) rfl) (zCh_1 (List.mem_of_getElem? (i := 6) (by decide +kernel)) rfl) (by decide) (by decide) (by decide) hd kk
theorem c_new1 {i : Nat} (hl : Cond.classLink y.1.cls i "QuorumLedger$Form" ∈ zT) (hd : decode y.2.1 pc = .ok (.new i, 3)) (kk : cX G o d y (pc + 3) l (va_rf (some (cn s)) :: st) (csNew s 2 3) Q) : cX G o d y pc l st s Q := c_new (ci := 1) (C := RX1) (T := TX1) (N := 3) rfl inT1 ftT1 hl (zCh_1 (List.mem_of_getElem? (i := 60) (by decide +kernel)) rfl) (zCh_1 (List.mem_of_getElem? (i := 4) (by decide +kernel)) rfl) (by decide) (by decide) (by decide) hd kk
theorem c_new2 {i : Nat} (hl : Cond.classLink y.1.cls i "QuorumLedger$Hasher" ∈ zT) (hd : decode y.2.1 pc = .ok (.new i, 3)) (kk : cX G o d y (pc + 3) l (va_rf (some (cn s)) :: st) (csNew s 3 6) Q) : cX G o d y pc l st s Q := c_new (ci := 2) (C := RX2) (T := TX2) (N := 6) rfl inT2 ftT2 hl (zCh_1 (List.mem_of_getElem? (i := 30) (by decide +kernel)) rfl) (zCh_1 (List.mem_of_getElem? (i := 3) (by decide +kernel)) rfl) (by decide) (by decide) (by decide) hd kk
theorem c_new3 {i : Nat} (hl : Cond.classLink y.1.cls i "QuorumLedger$Log" ∈ zT) (hd : decode y.2.1 pc = .ok (.new i, 3)) (kk : cX G o d y (pc + 3) l (va_rf (some (cn s)) :: st) (csNew s 4 10) Q) : cX G o d y pc l st s Q := c_new (ci := 3) (C := RX4) (T := TX4) (N := 10) rfl inT4 ftT4 hl (zCh_1 (List.mem_of_getElem? (i := 234) (by decide +kernel)) rfl) (zCh_1 (List.mem_of_getElem? (i := 10) (by decide +kernel)) rfl) (by decide) (by decide) (by decide) hd kk
theorem c_new4 {i : Nat} (hl : Cond.classLink y.1.cls i "QuorumLedger$Message" ∈ zT) (hd : decode y.2.1 pc = .ok (.new i, 3)) (kk : cX G o d y (pc + 3) l (va_rf (some (cn s)) :: st) (csNew s 5 7) Q) : cX G o d y pc l st s Q := c_new (ci := 4) (C := RX5) (T := TX5) (N := 7) rfl inT5 ftT5 hl (zCh_3 (List.mem_of_getElem? (i := 109) (by decide +kernel)) rfl) (zCh_1 (List.mem_of_getElem? (i := 14) (by decide +kernel)) rfl) (by decide) (by decide) (by decide) hd kk
theorem c_new5 {i : Nat} (hl : Cond.classLink y.1.cls i "QuorumLedger$Node" ∈ zT) (hd : decode y.2.1 pc = .ok (.new i, 3)) (kk : cX G o d y (pc + 3) l (va_rf (some (cn s)) :: st) (csNew s 6 19) Q) : cX G o d y pc l st s Q := c_new (ci := 5) (C := RX6) (T := TX6) (N := 19) rfl inT6 ftT6 hl (zCh_1 (List.mem_of_getElem? (i := 228) (by decide +kernel)) rfl) (zCh_1 (List.mem_of_getElem? (i := 9) (by decide +kernel)) rfl) (by decide) (by decide) (by decide) hd kk
theorem c_new6 {i : Nat} (hl : Cond.classLink y.1.cls i "QuorumLedger$Shelf" ∈ zT) (hd : decode y.2.1 pc = .ok (.new i, 3)) (kk : cX G o d y (pc + 3) l (va_rf (some (cn s)) :: st) (csNew s 7 14) Q) : cX G o d y pc l st s Q := c_new (ci := 6) (C := RX8) (T := TX8) (N := 14) rfl inT8 ftT8 hl (zCh_2 (List.mem_of_getElem? (i := 42) (by decide +kernel)) rfl) (zCh_1 (List.mem_of_getElem? (i := 11) (by decide +kernel)) rfl) (by decide) (by decide) (by decide) hd kk
theorem c_new7 {i : Nat} (hl : Cond.classLink y.1.cls i "QuorumLedger$Sky" ∈ zT) (hd : decode y.2.1 pc = .ok (.new i, 3)) (kk : cX G o d y (pc + 3) l (va_rf (some (cn s)) :: st) (csNew s 8 13) Q) : cX G o d y pc l st s Q := c_new (ci := 7) (C := RX9) (T := TX9) (N := 13) rfl inT9 ftT9 hl (zCh_1 (List.mem_of_getElem? (i := 80) (by decide +kernel)) rfl) (zCh_1 (List.mem_of_getElem? (i := 5) (by decide +kernel)) rfl) (by decide) (by decide) (by decide) hd kk
theorem c_new8 {i : Nat} (hl : Cond.classLink y.1.cls i "QuorumLedger$World" ∈ zT) (hd : decode y.2.1 pc = .ok (.new i, 3)) (kk : cX G o d y (pc + 3) l (va_rf (some (cn s)) :: st) (csNew s 9 12) Q) : cX G o d y pc l st s Q := c_new (ci := 8) (C := RX10) (T := TX10) (N := 12) rfl inT10 ftT10 hl (zCh_1 (List.mem_of_getElem? (i := 58) (by decide +kernel)) rfl) (zCh_1 (List.mem_of_getElem? (i := 2) (by decide +kernel)) rfl) (by decide) (by decide) (by decide) hd kk
theorem c_new9 {i : Nat} (hl : Cond.classLink y.1.cls i "QuorumLedger" ∈ zT) (hd : decode y.2.1 pc = .ok (.new i, 3)) (kk : cX G o d y (pc + 3) l (va_rf (some (cn s)) :: st) (csNew s 10 4) Q) : cX G o d y pc l st s Q := c_new (ci := 9) (C := RX11) (T := TX11) (N := 4) rfl inT11 ftT11 hl (zCh_1 (List.mem_of_getElem? (i := 19) (by decide +kernel)) rfl) (zCh_1 (List.mem_of_getElem? (i := 1) (by decide +kernel)) rfl) (by decide) (by decide) (by decide) hd kk
end CY
