/-! THE TABLES GIVE zK; THE CLAIM OUT OF ANY RELATION THAT THE CALLS KEEP -/
theorem wI0 : Cond.instantiable RX0 6 ∈ zT := zCh_1 (List.mem_of_getElem? (i := 134) (by decide +kernel)) rfl
theorem wI1 : Cond.instantiable RX1 3 ∈ zT := zCh_1 (List.mem_of_getElem? (i := 60) (by decide +kernel)) rfl
theorem wI2 : Cond.instantiable RX2 6 ∈ zT := zCh_1 (List.mem_of_getElem? (i := 30) (by decide +kernel)) rfl
theorem wI4 : Cond.instantiable RX4 10 ∈ zT := zCh_1 (List.mem_of_getElem? (i := 234) (by decide +kernel)) rfl
theorem wI5 : Cond.instantiable RX5 7 ∈ zT := zCh_3 (List.mem_of_getElem? (i := 109) (by decide +kernel)) rfl
theorem wI6 : Cond.instantiable RX6 19 ∈ zT := zCh_1 (List.mem_of_getElem? (i := 228) (by decide +kernel)) rfl
theorem wI8 : Cond.instantiable RX8 14 ∈ zT := zCh_2 (List.mem_of_getElem? (i := 42) (by decide +kernel)) rfl
theorem wI9 : Cond.instantiable RX9 13 ∈ zT := zCh_1 (List.mem_of_getElem? (i := 80) (by decide +kernel)) rfl
theorem wI10 : Cond.instantiable RX10 12 ∈ zT := zCh_1 (List.mem_of_getElem? (i := 58) (by decide +kernel)) rfl
theorem wI11 : Cond.instantiable RX11 4 ∈ zT := zCh_1 (List.mem_of_getElem? (i := 19) (by decide +kernel)) rfl
theorem wI12 : Cond.instantiable RX12 89 ∈ zT := zCh_6 (List.mem_of_getElem? (i := 63) (by decide +kernel)) rfl
theorem wS_FIRST : Cond.laysStatic "QuorumLedger$Hasher" "FIRST" "[I" ∈ lw_tbl := List.mem_append_right _ (List.mem_of_getElem? (i := 501) (by decide +kernel))
theorem wS_ADDED : Cond.laysStatic "QuorumLedger$Hasher" "ADDED" "[I" ∈ lw_tbl := List.mem_append_right _ (List.mem_of_getElem? (i := 507) (by decide +kernel))
theorem wS_ini : Cond.initialized "QuorumLedger$Hasher" ∈ zT := zCh_1 (List.mem_of_getElem? (i := 3) (by decide +kernel)) rfl
theorem wO_Message : Cond.arrayOver (.object "QuorumLedger$Message") ∈ lw_tbl := List.mem_append_right _ (List.mem_of_getElem? (i := 86) (by decide +kernel))
theorem wO_Node : Cond.arrayOver (.object "QuorumLedger$Node") ∈ lw_tbl := List.mem_append_right _ (List.mem_of_getElem? (i := 168) (by decide +kernel))
theorem wO_byte : Cond.arrayOver (.array .byte) ∈ lw_tbl := List.mem_append_right _ (List.mem_of_getElem? (i := 240) (by decide +kernel))
def lwN : Cond := Jvm.Cond.and given_1 narrow_1
theorem wF_arr : Cond.arrayOf (.static "QuorumLedger$Hasher" "FIRST" "[I") .int ∈ flatC lwN := by decide +kernel
theorem wF_len : Cond.eq (.length (.static "QuorumLedger$Hasher" "FIRST" "[I")) (.int (Int32.ofNat 8)) ∈ flatC lwN := by decide +kernel
theorem wF_el : ∀ j, j < 8 → Cond.eq (.elem (.static "QuorumLedger$Hasher" "FIRST" "[I") (.int (Int32.ofNat j))) (.int (zFIRST.getD j 0)) ∈ flatC lwN := by decide +kernel
theorem wA_arr : Cond.arrayOf (.static "QuorumLedger$Hasher" "ADDED" "[I") .int ∈ flatC lwN := by decide +kernel
theorem wA_len : Cond.eq (.length (.static "QuorumLedger$Hasher" "ADDED" "[I")) (.int (Int32.ofNat 64)) ∈ flatC lwN := by decide +kernel
theorem wA_el : ∀ j, j < 64 → Cond.eq (.elem (.static "QuorumLedger$Hasher" "ADDED" "[I") (.int (Int32.ofNat j))) (.int (zADDED.getD j 0)) ∈ flatC lwN := by decide +kernel
theorem zA_of {U : State} {cA : ClassId} {k : Class} {comp : ClassId} {ty : FieldType} (h2 : U.vm.classes[cA]? = some k) (h3 : k.kind = .array comp ty) : ArrOfT U cA ty := fun n z => ⟨fun k h => (by cases h), k, h2, comp, h3⟩
set_option maxHeartbeats 4000000 in
theorem lw_zK {s : State} {b L : Nat} {xs : Nat → Int32} (hts : ∀ w ∈ lw_tbl, w.before #[Value.ref b] s = true) (hX : va_X b L xs s s.heap) (hgv : lwN.before #[Value.ref b] s = true) : ∃ G : zG, zOK G ∧ gH G = s.heap ∧ G.2.2.2.1.2.2.1 = b ∧ G.2.2.2.1.2.2.2 = L ∧ G.2.2.2.2 = xs ∧ zK G s := by
  have hzt : ∀ w ∈ zT, w.before #[Value.ref b] s = true := fun w hw => hts w (List.mem_filter.mp hw).1
  have hfl := flat_of_before lwN hgv
  obtain ⟨c0, i0, k0⟩ := u_known (C := RX0) (T := TX0) (N := 6) hzt inT0 (hzt _ wI0)
  obtain ⟨c1, i1, k1⟩ := u_known (C := RX1) (T := TX1) (N := 3) hzt inT1 (hzt _ wI1)
  obtain ⟨c2, i2, k2⟩ := u_known (C := RX2) (T := TX2) (N := 6) hzt inT2 (hzt _ wI2)
  obtain ⟨c3, i3, k3⟩ := u_known (C := RX4) (T := TX4) (N := 10) hzt inT4 (hzt _ wI4)
  obtain ⟨c4, i4, k4⟩ := u_known (C := RX5) (T := TX5) (N := 7) hzt inT5 (hzt _ wI5)
  obtain ⟨c5, i5, k5⟩ := u_known (C := RX6) (T := TX6) (N := 19) hzt inT6 (hzt _ wI6)
  obtain ⟨c6, i6, k6⟩ := u_known (C := RX8) (T := TX8) (N := 14) hzt inT8 (hzt _ wI8)
  obtain ⟨c7, i7, k7⟩ := u_known (C := RX9) (T := TX9) (N := 13) hzt inT9 (hzt _ wI9)
  obtain ⟨c8, i8, k8⟩ := u_known (C := RX10) (T := TX10) (N := 12) hzt inT10 (hzt _ wI10)
  obtain ⟨c9, i9, k9⟩ := u_known (C := RX11) (T := TX11) (N := 4) hzt inT11 (hzt _ wI11)
  obtain ⟨c10, i10, k10⟩ := u_known (C := RX12) (T := TX12) (N := 89) hzt inT12 (hzt _ wI12)
  obtain ⟨a0, q0, p0, f0, g0, h0⟩ := Cond.arrayClass_spec (hzt _ arrC0)
  obtain ⟨a1, q1, p1, f1, g1, h1⟩ := Cond.arrayClass_spec (hzt _ arrC1)
  obtain ⟨a2, q2, p2, f2, g2, h2⟩ := Cond.arrayClass_spec (hzt _ arrC2)
  obtain ⟨a3, q3, p3, f3, g3, h3⟩ := Cond.arrayClass_spec (hzt _ arrC3)
  obtain ⟨p4, a4, q4, e4, -, g4, h4, f4⟩ := Cond.arrayOver_spec (hts _ wO_Message)
  obtain ⟨p5, a5, q5, e5, -, g5, h5, f5⟩ := Cond.arrayOver_spec (hts _ wO_Node)
  obtain ⟨p6, a6, q6, e6, -, g6, h6, f6⟩ := arrayOverA_spec (hts _ wO_byte)
  have hu : ∀ a : Nat, a < s.heap.size → ¬ s.heap.size ≤ a := fun a h => Nat.not_le.mpr h
  obtain ⟨tF, uF, vF⟩ := va_Tof (A := fun q => s.heap.size ≤ q) (f := zi zFIRST) (N := 8) (by decide) (hfl _ wF_arr) (va_eqt (hfl _ wF_len)) (fun j hj => va_eqt (hfl _ (wF_el j hj))) hu
  have zF := va_Zref (hts _ wS_FIRST) (hzt _ wS_ini) uF hu
  obtain ⟨tA, uA, vA⟩ := va_Tof (A := fun q => s.heap.size ≤ q) (f := zi zADDED) (N := 64) (by decide) (hfl _ wA_arr) (va_eqt (hfl _ wA_len)) (fun j hj => va_eqt (hfl _ (wA_el j hj))) hu
  have zA := va_Zref (hts _ wS_ADDED) (hzt _ wS_ini) uA hu
  have e60 : p6 = a0 := Option.some.inj (e6.symm.trans f0)
  refine ⟨((fun c => [c0, c1, c2, c3, c4, c5, c6, c7, c8, c9, c10].getD c 0, fun c => [i0, i1, i2, i3, i4, i5, i6, i7, i8, i9, i10].getD c (fun _ => 0)), (fun t => [a0, a1, a2, a3, a4, a5, a6].getD t 0), s.heap, (tF, tA, b, L), xs), ⟨?_, ?_⟩, rfl, rfl, rfl, rfl, ⟨?_, ?_⟩, ?_, zF, zA, vF, vA, hX, va_AO.of (hts _ wO_Message), va_AO.of (hts _ wO_Node), ?_, ⟨q6, g6, by rw [h6, e60]; rfl⟩, ⟨q0, g0⟩, va_asg _ _⟩
  · show a1 ≠ a0
    intro e
    subst e
    rw [g1] at g0
    cases g0
    rw [h1] at h0
    cases h0
  · show a3 ≠ a0
    intro e
    subst e
    rw [g3] at g0
    cases g0
    rw [h3] at h0
    cases h0
  · intro c q hq
    have hc : c < 11 := (List.getElem?_eq_some_iff.mp hq).1
    rcases (show c = 0 ∨ c = 1 ∨ c = 2 ∨ c = 3 ∨ c = 4 ∨ c = 5 ∨ c = 6 ∨ c = 7 ∨ c = 8 ∨ c = 9 ∨ c = 10 by omega) with rfl | rfl | rfl | rfl | rfl | rfl | rfl | rfl | rfl | rfl | rfl
    · cases hq; exact k0
    · cases hq; exact k1
    · cases hq; exact k2
    · cases hq; exact k3
    · cases hq; exact k4
    · cases hq; exact k5
    · cases hq; exact k6
    · cases hq; exact k7
    · cases hq; exact k8
    · cases hq; exact k9
    · cases hq; exact k10
  · intro t q hq
    have hc : t < 7 := (List.getElem?_eq_some_iff.mp hq).1
    rcases (show t = 0 ∨ t = 1 ∨ t = 2 ∨ t = 3 ∨ t = 4 ∨ t = 5 ∨ t = 6 by omega) with rfl | rfl | rfl | rfl | rfl | rfl | rfl
    · cases hq; exact ⟨zA_of g0 h0, f0⟩
    · cases hq; exact ⟨zA_of g1 h1, f1⟩
    · cases hq; exact ⟨zA_of g2 h2, f2⟩
    · cases hq; exact ⟨zA_of g3 h3, f3⟩
    · cases hq; exact ⟨zA_of g4 h4, q4, p4, g4, h4, e4, f4⟩
    · cases hq; exact ⟨zA_of g5 h5, q5, p5, g5, h5, e5, f5⟩
    · cases hq; exact ⟨zA_of g6 h6, f6⟩
  · intro w hw
    have hw1 := (List.mem_filter.mp hw).1
    obtain ⟨a, i, x, t, rfl⟩ := zN_nest hw
    exact va_Nw.of rfl (hts _ (List.mem_append_right _ hw1))
  · exact over_moved (Vm.Alike.refl _) (hts _ wO_byte)
def R_law : String := "QuorumLedgerLaw"
def lw_P (b : Addr) (xs : List Int32) (args : Array Value) (s : State) : Prop := args = #[.ref b] ∧ s.IntsAt b xs ∧ xs.length ≤ 3586 ∧ (Jvm.Cond.and given_1 narrow_1).before args s = true
def lw_Q (_ : Array Value) (s : State) (o : Outcome) (t : State) : Prop := o = .returned (some (.int 1)) ∧ Framed s o t [] 600000 7302250
def lw_Z (below : List Frame) (a : Array Value) (s : State) : State → Prop := fun t => ∃ o, t.status = .running ∧ Ended t below o ∧ lw_Q a s o t
/-- what holds at the law's entry -/
def lw_At (p : Program) (s : State) (m : MethodId) (meth : Method) (c : Code) (b L : Nat) (xs : Nat → Int32) : Prop :=
  p.tables.exec = Jvm.exec ∧ c.code = code ∧ meth.sig.returnType = ret ∧ c.maxLocals = 4 ∧ s.vm.findClass R_law = some m.cls ∧ (∀ w ∈ lw_tbl, w.before #[Value.ref b] s = true) ∧ va_X b L xs s s.heap ∧ b < s.heap.size ∧ meth.locks = false ∧ (Jvm.Cond.and given_1 narrow_1).before #[Value.ref b] s = true ∧ meth.name = "law"
/-- the pure claim: for every address g some relation that all calls keep -/
def lw_Pure : Prop := ∃ N : Nat, ∀ g : Nat, ∃ Rel : Nat → Nat → Nat → cS → rS → Prop, pS_all N g Rel
theorem lw_same {s t : State} {o : Outcome} {L : List Loc} {k n : Nat} (h : FrameEnd s o t L k n) (hL : ∀ q ∈ L, s.heap.size ≤ q.base) (hk : k ≤ 600000) (hn : n ≤ 7302250) : Framed s o t [] 600000 7302250 := by
  obtain ⟨h1, h2, h3, h4, h5, h6, h7, h8⟩ := h
  refine ⟨h1, h2, h3, h4, Nat.le_trans h5 (Nat.add_le_add_left hk _), h6, Nat.le_trans h7 hn, fun a c hc => ?_⟩
  obtain ⟨c', g1, g2, g3, g4⟩ := h8 a c hc
  refine ⟨c', g1, g2, g3, fun i _ => g4 i (fun hm => ?_)⟩
  have hlt := (Array.getElem?_eq_some_iff.mp hc).1
  have := hL _ hm
  exact absurd this (Nat.not_le.mpr hlt)
set_option maxHeartbeats 4000000 in
theorem whole_of (hP : lw_Pure) {p : Program} {e : Env} {s : State} {m : MethodId} {below : List Frame} {meth : Method} {c : Code} (l : Launch) {b L : Nat} {xs : Nat → Int32} (hL : L ≤ 3586) (C0 : lw_At p s m meth c b L xs) : W p l e room_1 s m #[Value.ref b] below meth c s.heap [] 0 0 (lw_Z below #[Value.ref b] s) (entryFrame m ([Value.ref b] : List Value).toArray 4) := by
  obtain ⟨C1, C2, C3, C4, C5, C6, C7, C8, C9, C10, C11⟩ := C0
  obtain ⟨G, hG, e1, e2, e3, e4, hK⟩ := lw_zK C6 C7 C10
  have eN : gN G = s.heap.size := by unfold gN; rw [e1]
  obtain ⟨N, hN⟩ := hP
  obtain ⟨Rel, hA⟩ := hN (gN G)
  have hC : zCx G mL_law p s m #[Value.ref b] meth c := ⟨C1, C2, C3, C4, C5, fun w hw => C6 w (List.mem_filter.mp hw).1, C9, C11, hK⟩
  have K0 := lw_made hG (by rw [e2, eN]; exact C8) (by rw [e3]; exact hL) hA
  have K1 : zW G dL_law mL_law 0 (lv_args 0 [Value.ref b]) [] (zW0 (gN G)) (fun r w' => r = some (.int (nI 1)) ∧ w'.2.1 ≤ gN G + 600000 ∧ w'.2.2 ≤ 7302250) := by
    refine zW.go (pc' := 0) (st' := []) (lv' := zl 0 (zargs 4 [Value.ref b])) ?_ (by rw [e2] at K0; exact K0)
    intro p l0 e R s m args below meth c H locs cells slots Z ls hC _ _ _ hl kk
    refine kk ls ⟨hl.1, hl.2.1, fun q hq => hl.2.2 q ?_⟩
    obtain ⟨k, h1, h2⟩ := zl_of _ 0 q hq
    have := zargs_get 4 [Value.ref b] 0 (lv_args 0 [Value.ref b]) (fun q hq => hq) k q.2 h2
    rw [← h1] at this
    exact this
  obtain ⟨r, w', ⟨a1, a2, a3⟩, b1, b2, b3⟩ := K1
  have hR : zR G (zW0 (gN G)) s.heap := ⟨fun a e h => (by cases h), (by rw [← eN]; rfl), Nat.le_refl _, fun q _ => (by rw [e1]), fun a n f h => (by cases h)⟩
  have hl := lv_entry [Value.ref b] (n := 4) (Nat.le_of_ble_eq_true rfl)
  rw [lg_entry_eq]
  have K2 := a3 p l e room_1 s m #[Value.ref b] below meth c hC (by decide) (by decide) s.heap [] (gN G) 0 _ hR hl (Nat.le_refl _) (Nat.le_refl _) (by show w'.2.1 - gN G ≤ 600000; omega) (by show w'.2.2 - 0 ≤ 7302250; omega) (fun q hq => absurd hq List.not_mem_nil)
  have z1 : (zW0 (gN G)).2.1 - gN G = 0 := Nat.sub_self _
  have z2 : (zW0 (gN G)).2.2 - 0 = 0 := rfl
  rw [z1, z2] at K2
  intro T hT X
  obtain ⟨t, s1, o, t1, t2, ⟨t3, -⟩, Lc, t5, t6⟩ := K2 T hT X
  refine ⟨t, s1, o, t1, t2, ?_, lw_same t5 (fun q hq => by rw [← eN]; exact t6 q hq) (by omega) (by omega)⟩
  rw [t3, b1]
  rfl
set_option maxHeartbeats 4000000 in
theorem lw_walk (hP : lw_Pure) (l : Launch) (b : Addr) (xs : List Int32) : MetFree l x (headSpec (Jvm.Cond.code x code maxLocals ret :: tables_1) room_1) (lw_P b xs) (fun _ _ _ _ _ => True) lw_Q := by
  refine MetFree.of_bodyS (code := code) (maxLocals := maxLocals) (ret := ret) (by decide) ?_ ?_
  · intro args s m h hn
    obtain ⟨meth, c, h1, h2, h3, h4, h5, h6, -, -⟩ := Cond.code_spec hn (atoms_spec (ws := Jvm.Cond.code x code maxLocals ret :: tables_1) h _ List.mem_cons_self)
    exact ⟨meth, c, h1, h2, h3, h4, h5, h6⟩
  · intro p e s m args below meth c s₁ B hml0 hP0 _
    obtain ⟨rfl, hx, hbd, hgv⟩ := hP0
    obtain ⟨scr, harrAt, hlist, hof, hsmall⟩ := hx
    obtain ⟨hcb, hkn, -, -⟩ := State.arrayAt?_spec harrAt
    have hown : s.vm.findClass R_law = some m.cls := findClass_of_methodNamed B.named
    have hts0 : ∀ c ∈ (Jvm.Cond.code x code maxLocals ret :: tables_1), c.before #[Value.ref b] s = true := atoms_spec (ws := Jvm.Cond.code x code maxLocals ret :: tables_1) B.pre
    have hts : ∀ w ∈ lw_tbl, w.before #[Value.ref b] s = true := k2_hts_sels lw_privs (fun w hw => hts0 w (List.mem_cons_of_mem _ hw)) lw_privs_ok
    have hml : c.maxLocals = 4 := B.maxLocals_eq (hts0 _ List.mem_cons_self)
    have X₀ : Stand p l e room_1 s m #[Value.ref b] below meth c s₁ [] 0 0 := Stand.of_body B
    have hh0 : s₁.heap = s.heap := by rw [B.state]; rfl
    have hsz : scr.slots.size = xs.length := by rw [← Array.length_toList, hlist, List.length_map]
    have hval : ∀ j : Nat, j < xs.length → scr.slots[j]? = some (.int (xs.getD j 0)) := fun j hj => by
      rw [← Array.getElem?_toList, hlist]
      simp [hj]
    have hbl : b < s.heap.size := (Array.getElem?_eq_some_iff.mp hcb).1
    have hX : va_X b xs.length (fun j => xs.getD j 0) s s.heap := ⟨scr, hcb, hof, hkn, hsz, hval⟩
    have K : W p l e room_1 s m #[Value.ref b] below meth c s₁.heap [] 0 0 (lw_Z below #[Value.ref b] s) (entryFrame m ([Value.ref b] : List Value).toArray 4) := by
      rw [hh0]
      exact whole_of hP l hbd ⟨B.exec, B.bytes, B.returns, hml, hown, hts, hX, hbl, B.notSynchronized, hgv, (name_of_methodNamed B.named B.method).1⟩
    obtain ⟨t, a1, o, b1, b2, b3⟩ := K s₁ rfl X₀
    exact ⟨t, o, a1, b1, b2, b3⟩
theorem lw_pre_spec {args : Array Value} {s : State} (h : (Jvm.Cond.and given_1 narrow_1).before args s = true) (hr : rest_1_c.before args s = true) : ∃ (b : Addr) (xs : List Int32), lw_P b xs args s := by
  have hs := flat_of_before _ h
  have hq := flat_of_before _ hr
  have hc : (Cond.count 1).before args s = true := hs _ (by decide +kernel)
  have harr : (Cond.arrayOf (.arg 0) .int).before args s = true := hs _ (by decide +kernel)
  have hle : (Cond.le (.length (.arg 0)) (.int 3586)).before args s = true := hs _ (by decide +kernel)
  have hlen : (Cond.isInt (.length (.arg 0))).before args s = true := hq _ (by decide +kernel)
  have hall : (Cond.all (.arg 0) (.isInt (.elem (.arg 0) (.index 0)))).before args s = true := hq _ (by decide +kernel)
  obtain ⟨b, xs, hb, hx⟩ := State.ints_of_pre rfl harr hlen hall
  have hsm : xs.length < 2 ^ 31 := hx.choose_spec.2.2.2
  have hev : (Term.length (.arg 0)).eval args s none [] s = some (.int xs.length.toInt32) := hx.length_eval hb
  have hv := Cond.le_ints hev (show (Term.int 3586).eval args s none [] s = some (.int 3586) from rfl)
  have hd : xs.length.toInt32 ≤ 3586 := by
    simpa [Cond.before, Cond.holds, hv] using hle
  have hN : xs.length ≤ 3586 := (Int32.ofNat_le_ofNat hsm (by decide)).mp (show Int32.ofNat xs.length ≤ Int32.ofNat 3586 from hd)
  exact ⟨b, xs, Cond.one_arg hc (show args[0]? = some (.ref b) from hb), hx, hN, h⟩
theorem lw_comes (hP : lw_Pure) (l : Launch) : Comes l x (Jvm.Cond.code x code maxLocals ret :: tables_1) room_1 (fun tb e args s => Calls_1 tb e args s ∧ rest_1 tb e args s ∧ Pre_1 tb e args s)
    (fun _ _ args s o t => lw_Q args s o t) := by
  intro p e ha hc hk s m args below hf hfit hheap happ hpre
  obtain ⟨b, xs, hP0⟩ := lw_pre_spec hpre.2.2 hpre.2.1
  obtain ⟨k, o, h1, h2, h3, hQ⟩ := lw_walk hP l b xs p e ha hc hk s m args below hf ((Spec.applies_iff_loose hf).mp happ).1 hP0 trivial
  exact ⟨k, o, h1, h2, h3, hQ⟩
theorem lw_frame {s t : State} {o : Outcome} {args : Array Value} (h : Framed s o t [] 600000 7302250) :
    Framed s o t (fieldLocs frame_1_writes args s ++ arrayLocs frame_1_arrays args s ++ staticLocs frame_1_statics s) 600000 7302250 := h
theorem lw_limb (hP : lw_Pure) (L : Cond) (hL : ∀ (args : Array Value) (s t : State), L.after args s (.returned (some (.int 1))) t = true) :
    ArmFor flags0 classFile x code maxLocals ret World_1 tables_1 room_1 Calls_1 rest_1 Pre_1
      (fun tb e a s o t => postC L tb e a s o t ∧ Framed s o t (fieldLocs frame_1_writes a s ++ arrayLocs frame_1_arrays a s ++ staticLocs frame_1_statics s) 600000 7302250) := by
  intro l _ _ _ p e ha hc hk s m args below hf hfit hheap happ hpre
  obtain ⟨k, o, h1, h2, h3, rfl, hF⟩ := lw_comes hP l p e ha hc hk s m args below hf hfit hheap happ hpre
  exact ⟨k, _, h1, h2, h3, hL args s _, lw_frame hF⟩
/-- the claim out of the pure claim -/
theorem lw_vc (hP : lw_Pure) : Claimed_1_1 ∧ Claimed_1_2 := ⟨lw_limb hP limb_1_1 (fun args s t => by simp [limb_1_1, Cond.after, Cond.holds, Cond.value]), lw_limb hP limb_1_2 (fun args s t => Cond.after_iff.mpr (by
  first | (rw [show limb_1_2 = Cond.eq .result (.int 1) from rfl, Cond.eq_ints (x := 1) (y := 1) rfl rfl]; simp; done) | (simp [limb_1_2, Cond.value, Term.eval]; done)))⟩
