/-! THE z CALCULUS: runs of methods over a pure picture of the heap. A world (zS): what each address holds, how many addresses there are, how many slots have been made. zB: from a place in a method's body it returns r in the world w'. zRun: the whole method does. zW: zB, goal first. -/
abbrev zM : Type := MethodName × ByteArray × Nat × Option FieldType
abbrev zS : Type := (Nat → Option va_E) × Nat × Nat
abbrev zG : Type := va_G × (Nat → ClassId) × Heap × (Nat × Nat × Nat × Nat) × (Nat → Int32)
def gD (G : zG) : va_G := G.1
def gA (G : zG) : Nat → ClassId := G.2.1
def gH (G : zG) : Heap := G.2.2.1
def gN (G : zG) : Nat := (gH G).size
def gU (G : zG) : Nat → Prop := fun q => gN G ≤ q
def zTy (A : Nat → ClassId) : List (ClassId × FieldType) := [(A 0, .byte), (A 1, .int), (A 2, .long), (A 3, .boolean), (A 4, .object "QuorumLedger$Message"), (A 5, .object "QuorumLedger$Node"), (A 6, .array .byte)]
def zT : List Cond := lw_tbl.filter goodWord
def k2_isNest : Cond → Bool
  | .methodLinkNest _ _ _ _ => true
  | _ => false
def zN : List Cond := tables_1.filter k2_isNest
def zFIRST : List Int32 := [1779033703, -1150833019, 1013904242, -1521486534, 1359893119, -1694144372, 528734635, 1541459225]
def zADDED : List Int32 := [1116352408, 1899447441, -1245643825, -373957723, 961987163, 1508970993, -1841331548, -1424204075, -670586216, 310598401, 607225278, 1426881987, 1925078388, -2132889090, -1680079193, -1046744716, -459576895, -272742522, 264347078, 604807628, 770255983, 1249150122, 1555081692, 1996064986, -1740746414, -1473132947, -1341970488, -1084653625, -958395405, -710438585, 113926993, 338241895, 666307205, 773529912, 1294757372, 1396182291, 1695183700, 1986661051, -2117940946, -1838011259, -1564481375, -1474664885, -1035236496, -949202525, -778901479, -694614492, -200395387, 275423344, 430227734, 506948616, 659060556, 883997877, 958139571, 1322822218, 1537002063, 1747873779, 1955562222, 2024104815, -2067236844, -1933114872, -1866530822, -1538233109, -1090935817, -965641998]
def zi (l : List Int32) : Nat → Value := fun j => .int (l.getD j 0)
/-- rows of byte rows -/
def zAB (U : State) : Prop := (Cond.arrayOver (.array .byte)).before #[] U = true
theorem zAB.moved {u U : State} (hvm : u.vm.Alike U.vm) (h : zAB u) : zAB U := by
  obtain ⟨comp, c, k, h1, h2, h3, h4, h5⟩ := arrayOverA_spec h
  obtain ⟨k', hk', he⟩ := hvm.2.2 _ _ h3
  have hi : (U.vm.classes.findIdx? fun (x : Class) => match x.kind with | .array component _ => component == comp | _ => false) = some c := by
    rw [hvm.findIdx?_eq _ (fun _ => rfl)]
    exact h2
  have hkind : k'.kind = .array comp (.array .byte) := by rw [he]; exact h4
  have f1 : U.vm.findClass (FieldType.array .byte).toString = some comp := by rw [hvm.findClass]; exact h1
  have f2 : U.vm.findClass ("[" ++ (FieldType.array .byte).toString) = some c := by rw [hvm.findClass]; exact h5
  unfold zAB Cond.before Cond.holds
  simp only [Cond.value]
  rw [f1, Option.bind_some]
  refine (congrArg (fun o : Option Nat => (o.bind (fun c => (U.vm.classes[c]?).map fun (k : Class) => match k.kind with | .array _ ty => decide (ty = FieldType.array .byte) && decide (U.vm.findClass ("[" ++ (FieldType.array .byte).toString) = some c) | _ => false) == some true)) hi).trans ?_
  simp [hk', hkind, f2]
def zBB (G : zG) (U : State) : Prop := zAB U ∧ (∃ k6 : Class, U.vm.classes[gA G 6]? = some k6 ∧ k6.kind = .array (gA G 0) (.array .byte)) ∧ (∃ k0 : Class, U.vm.classes[gA G 0]? = some k0) ∧ U.vm.assignable (gA G 0) (gA G 0) = true
theorem zBB.moved {G : zG} {u U : State} (hvm : u.vm.Alike U.vm) (h : zBB G u) : zBB G U := by
  obtain ⟨h1, ⟨k6, h2, h3⟩, ⟨k0, h4⟩, h5⟩ := h
  obtain ⟨k6', g1, g2⟩ := hvm.2.2 _ _ h2
  obtain ⟨k0', g3, g4⟩ := hvm.2.2 _ _ h4
  exact ⟨h1.moved hvm, ⟨k6', g1, by rw [g2]; exact h3⟩, ⟨k0', g3⟩, by rw [hvm.assignable]; exact h5⟩
/-- what the tables say, at any state of the run: ids, links of nest mates, the two constant rows, the script -/
def zK (G : zG) (U : State) : Prop := va_K (gD G) vwCl (zTy (gA G)) U ∧ (∀ w ∈ zN, va_Nw w U) ∧ va_Z "QuorumLedger$Hasher" "FIRST" "[I" (.ref G.2.2.2.1.1) (gU G) U (gH G) ∧ va_Z "QuorumLedger$Hasher" "ADDED" "[I" (.ref G.2.2.2.1.2.1) (gU G) U (gH G)
  ∧ va_T .int G.2.2.2.1.1 8 (zi zFIRST) (gU G) U (gH G) ∧ va_T .int G.2.2.2.1.2.1 64 (zi zADDED) (gU G) U (gH G) ∧ va_X G.2.2.2.1.2.2.1 G.2.2.2.1.2.2.2 G.2.2.2.2 U (gH G) ∧ va_AO "QuorumLedger$Message" U ∧ va_AO "QuorumLedger$Node" U ∧ zBB G U
/-- the world is what the heap holds; nothing that was there at the law's entry has changed -/
def zR (G : zG) (w : zS) (H : Heap) : Prop := (∀ a e, w.1 a = some e → gN G ≤ a ∧ va_at (gD G) vwCl (a, e) H) ∧ H.size = w.2.1 ∧ gN G ≤ w.2.1 ∧ (∀ q, q < gN G → H[q]? = (gH G)[q]?)
  ∧ ∀ a n f, w.1 a = some (.inl (gA G 0, n, .inl f)) → ∀ j, fits .byte (.int (f j)) = true
theorem zN_nest {w : Cond} (h : w ∈ zN) : ∃ a i x t, w = .methodLinkNest a i x t := by
  have h1 := (List.mem_filter.mp h).2
  cases w <;> simp [k2_isNest] at h1
  exact ⟨_, _, _, _, rfl⟩
theorem zK.al {G : zG} {u U : State} (h : zK G u) (hvm : u.vm.Alike U.vm) (hn : ∀ w ∈ zN, va_Nw w u → va_Nw w U) : zK G U :=
  ⟨va_K.moved hvm h.1, fun w hw => hn w hw (h.2.1 w hw), va_Z.moved hvm h.2.2.1, va_Z.moved hvm h.2.2.2.1, va_T.moved hvm h.2.2.2.2.1, va_T.moved hvm h.2.2.2.2.2.1, va_X.moved hvm h.2.2.2.2.2.2.1, va_AO.moved hvm h.2.2.2.2.2.2.2.1, va_AO.moved hvm h.2.2.2.2.2.2.2.2.1, zBB.moved hvm h.2.2.2.2.2.2.2.2.2⟩
theorem zK.warm {G : zG} {s U : State} (h : zK G s) (hW : s.WarmedH U.vm) : zK G U := h.al hW.alike fun w hw hz => by
  obtain ⟨a, i, x, t, rfl⟩ := zN_nest hw
  exact va_Nw.warmM hW hz
theorem zK.same {G : zG} {u U : State} (h : zK G u) (hv : u.vm = U.vm) : zK G U := h.al (by rw [hv]; exact Vm.Alike.refl _) fun w hw hz => by
  obtain ⟨a, i, x, t, rfl⟩ := zN_nest hw
  exact va_Nw.same rfl hv hz
theorem zIn {w : Cond} (i : Nat) (h : lw_tbl[i]? = some w) (hg : goodWord w = true) : w ∈ zT := List.mem_filter.mpr ⟨List.mem_of_getElem? h, hg⟩
theorem zNin {w : Cond} (i : Nat) (h : tables_1[i]? = some w) (hg : k2_isNest w = true) : w ∈ zN := List.mem_filter.mpr ⟨List.mem_of_getElem? h, hg⟩
abbrev zcode (y : zM) : Cond := .code y.1 y.2.1 y.2.2.1 y.2.2.2
theorem zGood {y : zM} (h : zcode y ∈ zT) : GoodIn zT (zcode y :: zT) := fun w hw => by
  have hm : w ∈ zT := (List.mem_cons.mp hw).elim (fun e => e ▸ h) id
  exact ⟨hm, good_of_word (List.mem_filter.mp hm).2⟩
def zP (G : zG) (av : List Value) (w : zS) : Array Value → State → Prop := fun a U => a = av.toArray ∧ zR G w U.heap ∧ zK G U
def zQ (G : zG) (r : Option Value) (w' : zS) : Array Value → State → Outcome → State → Prop := fun _ _ o t => o = .returned r ∧ zR G w' t.heap
theorem zP.blind {G : zG} {av : List Value} {w : zS} : FrameBlind (zP G av w) := fun a U g mk h => ⟨h.1, h.2.1, h.2.2.same rfl⟩
def zRm (d : Nat × Nat) (w w' : zS) : Room := { frames := d.1, cells := w'.2.1 - w.2.1, slots := w'.2.2 - w.2.2, locals := d.2 }
def zRun (G : zG) (d : Nat × Nat) (y : zM) (av : List Value) (w : zS) (r : Option Value) (w' : zS) : Prop :=
  w.2.1 ≤ w'.2.1 ∧ w.2.2 ≤ w'.2.2 ∧ ∀ l : Launch, Met l y.1 (zcode y :: zT) (zRm d w w') (zP G av w) (zQ G r w') (w'.2.1 - w.2.1) (w'.2.2 - w.2.2) (gU G)
/-- what stands at a method's body -/
def zCx (G : zG) (y : zM) (p : Program) (s : State) (m : MethodId) (args : Array Value) (meth : Method) (c : Code) : Prop :=
  p.tables.exec = Jvm.exec ∧ c.code = y.2.1 ∧ meth.sig.returnType = y.2.2.2 ∧ c.maxLocals = y.2.2.1 ∧ s.vm.findClass y.1.cls = some m.cls ∧ (∀ w ∈ zT, w.before args s = true) ∧ meth.locks = false ∧ meth.name = y.1.name ∧ zK G s
def zB (G : zG) (d : Nat × Nat) (y : zM) (pc : Nat) (lv : List (Nat × Value)) (st : List Value) (w : zS) (r : Option Value) (w' : zS) : Prop :=
  w.2.1 ≤ w'.2.1 ∧ w.2.2 ≤ w'.2.2 ∧ ∀ (p : Program) (l : Launch) (e : Env) (R : Room) (s : State) (m : MethodId) (args : Array Value) (below : List Frame) (meth : Method) (c : Code), zCx G y p s m args meth c → d.1 ≤ R.frames → d.2 ≤ R.locals →
    ∀ (H : Heap) (locs : List Loc) (n0 k0 : Nat) (ls : Array Slot), zR G w H → lv_has ls y.2.2.1 lv → n0 ≤ w.2.1 → k0 ≤ w.2.2 → w'.2.1 - n0 ≤ R.cells → w'.2.2 - k0 ≤ R.slots → (∀ q ∈ locs, gU G q.base) →
      W p l e R s m args below meth c H locs (w.2.1 - n0) (w.2.2 - k0) (MQ below (zQ G r w') args s (w'.2.1 - n0) (w'.2.2 - k0) (gU G)) (F0 m pc ls st)
def zW (G : zG) (d : Nat × Nat) (y : zM) (pc : Nat) (lv : List (Nat × Value)) (st : List Value) (w : zS) (Q : Option Value → zS → Prop) : Prop := ∃ r w', zB G d y pc lv st w r w' ∧ Q r w'
/-- a whole run, with what it comes to -/
def zC (G : zG) (d : Nat × Nat) (y : zM) (av : List Value) (w : zS) (Q : Option Value → zS → Prop) : Prop := ∃ r w', zRun G d y av w r w' ∧ Q r w'
theorem zC.weaken {G : zG} {d : Nat × Nat} {y : zM} {av : List Value} {w : zS} {Q Q' : Option Value → zS → Prop} (h : zC G d y av w Q) (hq : ∀ r w', Q r w' → Q' r w') : zC G d y av w Q' := by
  obtain ⟨r, w', h1, h2⟩ := h
  exact ⟨r, w', h1, hq r w' h2⟩
theorem zW.weaken {G : zG} {d : Nat × Nat} {y : zM} {pc : Nat} {lv : List (Nat × Value)} {st : List Value} {w : zS} {Q Q' : Option Value → zS → Prop} (h : zW G d y pc lv st w Q) (hq : ∀ r w', Q r w' → Q' r w') : zW G d y pc lv st w Q' := by
  obtain ⟨r, w', h1, h2⟩ := h
  exact ⟨r, w', h1, hq r w' h2⟩
/-- a method's run out of its body -/
theorem zC.of {G : zG} {d : Nat × Nat} {y : zM} {av : List Value} {w : zS} {Q : Option Value → zS → Prop} (hp : plainName y.1.cls = true) (hlen : (lg_sl av).length ≤ y.2.2.1) (h : zW G d y 0 (lv_args 0 av) [] w Q) : zC G d y av w Q := by
  obtain ⟨r, w', ⟨h1, h2, h3⟩, hq⟩ := h
  refine ⟨r, w', ⟨h1, h2, fun l => ?_⟩, hq⟩
  refine Met.ofW (cc := y.2.1) (maxL := y.2.2.1) (ret := y.2.2.2) hp rfl ?_
  intro p e s m args below meth c s₁ B hml hv
  obtain ⟨rfl, hR, hK⟩ := hv
  have hts := atoms_spec (ws := zcode y :: zT) B.pre
  have hC : zCx G y p s m av.toArray meth c := ⟨B.exec, B.bytes, B.returns, hml, findClass_of_methodNamed B.named, fun w hw => hts w (List.mem_cons_of_mem _ hw), B.notSynchronized, (name_of_methodNamed B.named B.method).1, hK⟩
  have hl := lv_entry av (n := y.2.2.1) hlen
  rw [lg_entry_eq]
  have hsz := hR.2.1
  have K := h3 p l e (zRm d w w') s m av.toArray below meth c hC (Nat.le_refl _) (Nat.le_refl _) s.heap [] w.2.1 w.2.2 _ hR hl (Nat.le_refl _) (Nat.le_refl _) (Nat.le_refl _) (Nat.le_refl _) (fun q hq => absurd hq List.not_mem_nil)
  rw [Nat.sub_self, Nat.sub_self] at K
  exact K
/-- a step that leaves the heap -/
theorem zW.go {G : zG} {d : Nat × Nat} {y : zM} {pc pc' : Nat} {lv lv' : List (Nat × Value)} {st st' : List Value} {w : zS} {Q : Option Value → zS → Prop}
    (h : ∀ (p : Program) (l : Launch) (e : Env) (R : Room) (s : State) (m : MethodId) (args : Array Value) (below : List Frame) (meth : Method) (c : Code) (H : Heap) (locs : List Loc) (cells slots : Nat) (Z : State → Prop) (ls : Array Slot), zCx G y p s m args meth c → d.1 ≤ R.frames → d.2 ≤ R.locals → zR G w H → lv_has ls y.2.2.1 lv →
      (∀ ls', lv_has ls' y.2.2.1 lv' → W p l e R s m args below meth c H locs cells slots Z (F0 m pc' ls' st')) → W p l e R s m args below meth c H locs cells slots Z (F0 m pc ls st))
    (k : zW G d y pc' lv' st' w Q) : zW G d y pc lv st w Q := by
  obtain ⟨r, w', ⟨h1, h2, h3⟩, hq⟩ := k
  refine ⟨r, w', ⟨h1, h2, ?_⟩, hq⟩
  intro p l e R s m args below meth c hC hd1 hd2 H locs n0 k0 ls hR hl hn hk hr1 hr2 hlo
  exact h p l e R s m args below meth c H locs _ _ _ ls hC hd1 hd2 hR hl (fun ls' hl' => h3 p l e R s m args below meth c hC hd1 hd2 H locs n0 k0 ls' hR hl' hn hk hr1 hr2 hlo)
/-- a branch -/
theorem zW.br {G : zG} {d : Nat × Nat} {y : zM} {pc pa pb : Nat} {lv : List (Nat × Value)} {st st' : List Value} {w : zS} {Q : Option Value → zS → Prop} {P : Prop}
    (h : ∀ (p : Program) (l : Launch) (e : Env) (R : Room) (s : State) (m : MethodId) (args : Array Value) (below : List Frame) (meth : Method) (c : Code) (H : Heap) (locs : List Loc) (cells slots : Nat) (Z : State → Prop) (ls : Array Slot), zCx G y p s m args meth c →
      (P → W p l e R s m args below meth c H locs cells slots Z (F0 m pa ls st')) → (¬ P → W p l e R s m args below meth c H locs cells slots Z (F0 m pb ls st')) → W p l e R s m args below meth c H locs cells slots Z (F0 m pc ls st))
    (ka : P → zW G d y pa lv st' w Q) (kb : ¬ P → zW G d y pb lv st' w Q) : zW G d y pc lv st w Q := by
  by_cases hP : P
  · refine zW.go (pc' := pa) (st' := st') (lv' := lv) ?_ (ka hP)
    intro p l e R s m args below meth c H locs cells slots Z ls hC _ _ _ hl kk
    exact h p l e R s m args below meth c H locs cells slots Z ls hC (fun _ => kk ls hl) (fun n => absurd hP n)
  · refine zW.go (pc' := pb) (st' := st') (lv' := lv) ?_ (kb hP)
    intro p l e R s m args below meth c H locs cells slots Z ls hC _ _ _ hl kk
    exact h p l e R s m args below meth c H locs cells slots Z ls hC (fun n => absurd n hP) (fun _ => kk ls hl)
/-- a step that writes one cell -/
def zUp (w : zS) (a : Nat) (e : va_E) : zS := (fun q => if q = a then some e else w.1 q, w.2.1, w.2.2)
/-- a step that makes one cell of n slots -/
def zNew (w : zS) (e : va_E) (n : Nat) : zS := (fun q => if q = w.2.1 then some e else w.1 q, w.2.1 + 1, w.2.2 + n)
theorem zR.up {G : zG} {w : zS} {H H1 : Heap} {a : Nat} {e0 e : va_E} (h : zR G w H) (ha : w.1 a = some e0) (he : va_at (gD G) vwCl (a, e) H1) (hz : H1.size = H.size) (ho : ∀ q, q ≠ a → H1[q]? = H[q]?) (hf : ∀ n f, e = .inl (gA G 0, n, .inl f) → ∀ j, fits .byte (.int (f j)) = true) : zR G (zUp w a e) H1 := by
  obtain ⟨h1, h2, h3, h4, h5⟩ := h
  have hga := (h1 a e0 ha).1
  refine ⟨fun q x hq => ?_, hz.trans h2, h3, fun q hq => ?_, fun q n f hq => ?_⟩
  · by_cases hqa : q = a
    · subst hqa
      simp only [zUp, if_pos] at hq
      cases hq
      exact ⟨hga, he⟩
    · simp only [zUp, if_neg hqa] at hq
      exact ⟨(h1 q x hq).1, (h1 q x hq).2.kept (ho q hqa)⟩
  · rw [ho q (by unfold gN at *; omega)]
    exact h4 q hq
  · by_cases hqa : q = a
    · subst hqa
      simp only [zUp, if_pos] at hq
      cases hq
      exact hf n f rfl
    · simp only [zUp, if_neg hqa] at hq
      exact h5 q n f hq
theorem zR.lt {G : zG} {w : zS} {H : Heap} {a : Nat} {e : va_E} (h : zR G w H) (ha : w.1 a = some e) : a < w.2.1 := by
  rw [← h.2.1]
  exact (h.1 a e ha).2.lt
theorem zR.new {G : zG} {w : zS} {H H1 : Heap} {e : va_E} {n : Nat} (h : zR G w H) (he : va_at (gD G) vwCl (w.2.1, e) H1) (hz : H1.size = H.size + 1) (ho : ∀ q, q < H.size → H1[q]? = H[q]?) (hf : ∀ n f, e = .inl (gA G 0, n, .inl f) → ∀ j, fits .byte (.int (f j)) = true) : zR G (zNew w e n) H1 := by
  have hlt : ∀ q x, w.1 q = some x → q < w.2.1 := fun q x hq => h.lt hq
  obtain ⟨h1, h2, h3, h4, h5⟩ := h
  refine ⟨fun q x hq => ?_, by rw [hz, h2]; rfl, Nat.le_succ_of_le h3, fun q hq => ?_, fun q n f hq => ?_⟩
  · by_cases hqa : q = w.2.1
    · subst hqa
      simp only [zNew, if_pos] at hq
      cases hq
      exact ⟨h3, he⟩
    · simp only [zNew, if_neg hqa] at hq
      exact ⟨(h1 q x hq).1, (h1 q x hq).2.kept (ho q (by rw [h2]; exact hlt q x hq))⟩
  · rw [ho q (by rw [h2]; omega)]
    exact h4 q hq
  · by_cases hqa : q = w.2.1
    · subst hqa
      simp only [zNew, if_pos] at hq
      cases hq
      exact hf n f rfl
    · simp only [zNew, if_neg hqa] at hq
      exact h5 q n f hq
theorem zW.put {G : zG} {d : Nat × Nat} {y : zM} {pc pc' : Nat} {lv : List (Nat × Value)} {st st' : List Value} {w : zS} {Q : Option Value → zS → Prop} {a : Nat} {e0 e1 : va_E} (ha : w.1 a = some e0)
    (h : ∀ (p : Program) (l : Launch) (e : Env) (R : Room) (s : State) (m : MethodId) (args : Array Value) (below : List Frame) (meth : Method) (c : Code) (H : Heap) (locs : List Loc) (cells slots : Nat) (Z : State → Prop) (ls : Array Slot), zCx G y p s m args meth c → d.1 ≤ R.frames → d.2 ≤ R.locals → zR G w H → lv_has ls y.2.2.1 lv →
      (∀ (H1 : Heap) (L : List Loc), va_at (gD G) vwCl (a, e1) H1 → H1.size = H.size → (∀ q, q ≠ a → H1[q]? = H[q]?) → (∀ q ∈ L, q.base = a) → W p l e R s m args below meth c H1 (locs ++ L) cells slots Z (F0 m pc' ls st')) → W p l e R s m args below meth c H locs cells slots Z (F0 m pc ls st))
    (hf : ∀ n f, e1 = .inl (gA G 0, n, .inl f) → ∀ j, fits .byte (.int (f j)) = true)
    (k : zW G d y pc' lv st' (zUp w a e1) Q) : zW G d y pc lv st w Q := by
  obtain ⟨r, w', ⟨h1, h2, h3⟩, hq⟩ := k
  refine ⟨r, w', ⟨h1, h2, ?_⟩, hq⟩
  intro p l e R s m args below meth c hC hd1 hd2 H locs n0 k0 ls hR hl hn hk hr1 hr2 hlo
  refine h p l e R s m args below meth c H locs _ _ _ ls hC hd1 hd2 hR hl (fun H1 L he hz ho hL => ?_)
  refine h3 p l e R s m args below meth c hC hd1 hd2 H1 (locs ++ L) n0 k0 ls (hR.up ha he hz ho hf) hl hn hk hr1 hr2 (fun q hq => ?_)
  rcases List.mem_append.mp hq with z | z
  · exact hlo q z
  · rw [hL q z]
    exact (hR.1 a e0 ha).1
theorem zW.new {G : zG} {d : Nat × Nat} {y : zM} {pc pc' : Nat} {lv : List (Nat × Value)} {st st' : List Value} {w : zS} {Q : Option Value → zS → Prop} {e1 : va_E} {n : Nat}
    (h : ∀ (p : Program) (l : Launch) (e : Env) (R : Room) (s : State) (m : MethodId) (args : Array Value) (below : List Frame) (meth : Method) (c : Code) (H : Heap) (locs : List Loc) (cells slots : Nat) (Z : State → Prop) (ls : Array Slot), zCx G y p s m args meth c → zR G w H → cells + 1 ≤ R.cells → slots + n ≤ R.slots →
      (∀ H1 : Heap, va_at (gD G) vwCl (w.2.1, e1) H1 → H1.size = H.size + 1 → (∀ q, q < H.size → H1[q]? = H[q]?) → W p l e R s m args below meth c H1 locs (cells + 1) (slots + n) Z (F0 m pc' ls st')) → W p l e R s m args below meth c H locs cells slots Z (F0 m pc ls st))
    (hf : ∀ n f, e1 = .inl (gA G 0, n, .inl f) → ∀ j, fits .byte (.int (f j)) = true)
    (k : zW G d y pc' lv st' (zNew w e1 n) Q) : zW G d y pc lv st w Q := by
  obtain ⟨r, w', ⟨h1, h2, h3⟩, hq⟩ := k
  have e1' : (zNew w e1 n).2.1 = w.2.1 + 1 := rfl
  have e2' : (zNew w e1 n).2.2 = w.2.2 + n := rfl
  rw [e1'] at h1
  rw [e2'] at h2
  refine ⟨r, w', ⟨by omega, by omega, ?_⟩, hq⟩
  intro p l e R s m args below meth c hC hd1 hd2 H locs n0 k0 ls hR hl hn hk hr1 hr2 hlo
  refine h p l e R s m args below meth c H locs _ _ _ ls hC hR (by omega) (by omega) (fun H1 he hz ho => ?_)
  have K := h3 p l e R s m args below meth c hC hd1 hd2 H1 locs n0 k0 ls (hR.new he hz ho hf) hl (by rw [e1']; omega) (by rw [e2']; omega) hr1 hr2 hlo
  rw [e1', e2'] at K
  refine W.cs (by omega) (by omega) K
