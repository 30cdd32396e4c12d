/-! Math.min and Math.max -/
section ZM
variable {G : zG} {d : Nat × Nat} {y : zM} {pc : Nat} {l : List (Option Value)} {st : List Value} {w : zS} {Q : Option Value → zS → Prop}
theorem zX.math {pc' : Nat} {st' : List Value} (h : ∀ (p : Program) (l0 : Launch) (e : Env) (R : Room) (s : State) (m : MethodId) (args : Array Value) (below : List Frame) (meth : Method) (c : Code) (H : Heap) (locs : List Loc) (cells slots : Nat) (Z : State → Prop) (ls : Array Slot), zCx G y p s m args meth c → d.1 ≤ R.frames → d.2 ≤ R.locals → cells ≤ R.cells → slots ≤ R.slots → lv_has ls y.2.2.1 (zl 0 l) →
      W p l0 e R s m args below meth c H locs cells slots Z (F0 m pc' ls st') → W p l0 e R s m args below meth c H locs cells slots Z (F0 m pc ls st))
    (k : zX G d y pc' l st' w Q) : zX G d y pc l st w Q := by
  obtain ⟨r, w', ⟨h1, h2, h3⟩, hq⟩ := k
  refine ⟨r, w', ⟨h1, h2, ?_⟩, hq⟩
  intro p l0 e R s m args below meth c hC hd1 hd2 H locs n0 k0 ls hR hl hn hk hr1 hr2 hlo
  exact h p l0 e R s m args below meth c H locs _ _ _ ls hC hd1 hd2 (by omega) (by omega) hl (h3 p l0 e R s m args below meth c hC hd1 hd2 H locs n0 k0 ls hR hl hn hk hr1 hr2 hlo)
end ZM
theorem m_minS : Cond.static Lib.Math.min.name ∈ zT := zCh_3 (List.mem_of_getElem? (i := 62) (by decide +kernel)) rfl
theorem m_minC : Cond.code Lib.Math.min.name Lib.Math.min.code 2 (some .int) ∈ zT := zCh_3 (List.mem_of_getElem? (i := 63) (by decide +kernel)) rfl
theorem m_maxS : Cond.static Lib.Math.max.name ∈ zT := zCh_1 (List.mem_of_getElem? (i := 165) (by decide +kernel)) rfl
theorem m_maxC : Cond.code Lib.Math.max.name Lib.Math.max.code 2 (some .int) ∈ zT := zCh_1 (List.mem_of_getElem? (i := 166) (by decide +kernel)) rfl
theorem m_I : Cond.initialized "java/lang/Math" ∈ zT := zCh_1 (List.mem_of_getElem? (i := 8) (by decide +kernel)) rfl
section CMA
variable {G : zG} {o : cO} {d : Nat × Nat} {y : zM} {pc : Nat} {l : List (Option Value)} {st : List Value} {s : cS} {Q : Option Value → cS → Prop}
theorem c_mmin {i : Nat} {x z : Int32} (hd : decode y.2.1 pc = .ok (.invokestatic i, 3)) (hl : Cond.methodLink y.1.cls i Lib.Math.min.name ∈ zT) (hd1 : 1 ≤ d.1) (hd2 : (st.map fun v => v.category).sum + 13 ≤ d.2) (kk : cX G o d y (pc + 3) l (.int (if z < x then z else x) :: st) s Q) : cX G o d y pc l (.int z :: .int x :: st) s Q := fun w hw => zX.math (fun p l0 e R s0 m args below meth c H locs cells slots Z ls hC h1 h2 h3 h4 hl0 kw => va_mmin hC.1 hC.2.1 (by rw [hC.2.2.2.1]; exact hl0.1.symm) hC.2.2.2.2.1 (hC.2.2.2.2.2.1 _ hl) (hC.2.2.2.2.2.1 _ m_minS) (hC.2.2.2.2.2.1 _ m_I) (hC.2.2.2.2.2.1 _ m_minC) (by omega) (by omega) h3 h4 hd kw) (kk w hw)
theorem c_mmax {i : Nat} {x z : Int32} (hd : decode y.2.1 pc = .ok (.invokestatic i, 3)) (hl : Cond.methodLink y.1.cls i Lib.Math.max.name ∈ zT) (hd1 : 1 ≤ d.1) (hd2 : (st.map fun v => v.category).sum + 13 ≤ d.2) (kk : cX G o d y (pc + 3) l (.int (if x < z then z else x) :: st) s Q) : cX G o d y pc l (.int z :: .int x :: st) s Q := fun w hw => zX.math (fun p l0 e R s0 m args below meth c H locs cells slots Z ls hC h1 h2 h3 h4 hl0 kw => va_mmax hC.1 hC.2.1 (by rw [hC.2.2.2.1]; exact hl0.1.symm) hC.2.2.2.2.1 (hC.2.2.2.2.2.1 _ hl) (hC.2.2.2.2.2.1 _ m_maxS) (hC.2.2.2.2.2.1 _ m_I) (hC.2.2.2.2.2.1 _ m_maxC) (by omega) (by omega) h3 h4 hd kw) (kk w hw)
end CMA
def zMin : Int64 := -9223372036854775808
theorem zcat_i (x : Int32) : (Value.int x).category = 1 := rfl
theorem zcat_l (x : Int64) : (Value.long x).category = 2 := rfl
theorem zcat_r (a : Nat) : (Value.ref a).category = 1 := rfl
