/-! ROWS OF THE z CALCULUS: fields, arrays, what is made, what is returned -/
section ZH
variable {G : zG} {d : Nat × Nat} {y : zM} {pc : Nat} {l : List (Option Value)} {st : List Value} {w : zS} {Q : Option Value → zS → Prop}
/-- a field of a kind of object: its number among the kinds, its place; the tables know both -/
def zF (own : String) (i ci k : Nat) (C : String) (T : u_T) (N : Nat) : Prop := vwCl[ci]? = some (C, T, N) ∧ (∀ w ∈ u_ws C T N, w ∈ zT) ∧ k < N ∧ Cond.fieldLink own i (T k).1 (T k).2.1 (T k).2.2.1 ∈ zT
theorem z_getf {i ci k : Nat} {C : String} {T : u_T} {N a : Nat} {fs : List Value} {v : Value} (hF : zF y.1.cls i ci k C T N) (hd : decode y.2.1 pc = .ok (.getfield i, 3)) (ha : w.1 a = some (.inr (ci, fs))) (hv : fs[k]? = some v) (kk : zX G d y (pc + 3) l (v :: st) w Q) : zX G d y pc l (.ref a :: st) w Q := by
  refine zX.same (fun p l0 e R s m args below meth c H locs cells slots Z ls hC hR hl kw => ?_) kk
  obtain ⟨hc, hin, hk, hlink⟩ := hF
  have hP : va_P (gD G) vwCl [(a, .inr (ci, fs))] H := fun j q hq => by
    have hj : j < 1 := (List.getElem?_eq_some_iff.mp hq).1
    rw [show j = 0 by omega] at hq
    cases hq
    exact (hR.1 a _ ha).2
  exact va_get hC.1 hC.2.1 hC.2.2.2.2.2.1 hin hC.2.2.2.2.1 hC.2.2.2.2.2.2.2.2.1 hP 0 rfl hc k hk (hC.2.2.2.2.2.1 _ hlink) (fun _ h => h) hv hd kw
/-- what a field takes -/
def zFt (T : u_T) (N : Nat) (ty : Nat → FieldType) : Prop := (∀ k, k < N → parseFieldDescriptor (T k).2.2.1 = some (ty k)) ∧ ∀ a, a < N → ∀ b, b < N → a ≠ b → (T a).2.1 ≠ (T b).2.1
theorem z_putf {i ci k : Nat} {C : String} {T : u_T} {N a : Nat} {ty : Nat → FieldType} {fs : List Value} {v : Value} (hF : zF y.1.cls i ci k C T N) (ht : zFt T N ty) (hfin : (T k).2.2.2 = false) (hd : decode y.2.1 pc = .ok (.putfield i, 3)) (ha : w.1 a = some (.inr (ci, fs))) (hn : narrow (ty k) v = v) (hfit : fits (ty k) v = true) (hl : k < fs.length) (kk : zX G d y (pc + 3) l st (zUp w a (.inr (ci, fs.set k v))) Q) : zX G d y pc l (v :: .ref a :: st) w Q := by
  obtain ⟨hc, hin, hk, hlink⟩ := hF
  refine zW.put ha (fun p l0 e R s m args below meth c H locs cells slots Z ls hC _ _ hR hl0 kw => ?_) (fun n f h => by cases h) kk
  have hts := hC.2.2.2.2.2.1
  have hK := hC.2.2.2.2.2.2.2.2.1
  have hap := va_apart (own := y.1.cls) hts hin ty ht.1 ht.2 hK hc
  obtain ⟨r, h1, cell, q1, q2, q3, q4⟩ := (hR.1 a _ ha).2
  have hr : r = (C, T, N) := Option.some.inj (h1.symm.trans hc)
  subst hr
  obtain ⟨hS, hfc, kC, hkC, hkind⟩ := hK.1 ci _ hc
  obtain ⟨cf, kf, fi, f, hi, hsl⟩ := hS k hk
  have hlay := hts _ (hin _ (u_in_lay hk))
  unfold u_lay at hlay
  rw [if_neg (by rw [hfin]; decide)] at hlay
  have hst := (u_facts hfc hkC (u_lays hts hin hk) hi).1
  have h6 := u_store hfc hkC hkind hlay hi (ht.1 k hk) hn hfit
  refine W.putK hC.1 hC.2.1 (f := f) ⟨hC.2.2.2.2.1, hts _ hlink, ⟨_, _, _, hi⟩, hst⟩ (by rw [q2]; exact h6) q1 q3 (by rw [hsl]; exact k2_hasslot (q4 k hk)) rfl rfl hd fun H' e1 e2 e3 => ?_
  rw [hsl] at e1 ⊢
  exact kw H' _ ⟨_, hc, t_OB.to (V := updV (vp_V fs) k v) ⟨_, e1, q2, q3, t_set q4 hap hk v⟩ (fun j _ => vp_updV_set hl v j)⟩ e2 e3 (fun q hq => by rw [List.mem_singleton.mp hq])
/-- a final field, in its maker -/
theorem z_putF {i ci k : Nat} {C : String} {T : u_T} {N a : Nat} {ty : Nat → FieldType} {fs : List Value} {v : Value} (hF : zF y.1.cls i ci k C T N) (ht : zFt T N ty) (hfin : (T k).2.2.2 = true) (hinit : y.1.name = "<init>") (hdecl : (T k).1 = y.1.cls) (hd : decode y.2.1 pc = .ok (.putfield i, 3)) (ha : w.1 a = some (.inr (ci, fs))) (hn : narrow (ty k) v = v) (hfit : fits (ty k) v = true) (hl : k < fs.length) (kk : zX G d y (pc + 3) l st (zUp w a (.inr (ci, fs.set k v))) Q) : zX G d y pc l (v :: .ref a :: st) w Q := by
  obtain ⟨hc, hin, hk, hlink⟩ := hF
  refine zW.put ha (fun p l0 e R s m args below meth c H locs cells slots Z ls hC _ _ hR hl0 kw => ?_) (fun n f h => by cases h) kk
  have hts := hC.2.2.2.2.2.1
  have hown := hC.2.2.2.2.1
  have hK := hC.2.2.2.2.2.2.2.2.1
  have hap := va_apart (own := y.1.cls) hts hin ty ht.1 ht.2 hK hc
  obtain ⟨r, h1, cell, q1, q2, q3, q4⟩ := (hR.1 a _ ha).2
  have hr : r = (C, T, N) := Option.some.inj (h1.symm.trans hc)
  subst hr
  obtain ⟨hS, hfc, kC, hkC, hkind⟩ := hK.1 ci _ hc
  obtain ⟨cf, kf, fi, f, hi, hsl⟩ := hS k hk
  have hlay := hts _ (hin _ (u_in_lay hk))
  unfold u_lay at hlay
  rw [if_pos hfin] at hlay
  have hst := (u_facts hfc hkC (u_lays hts hin hk) hi).1
  have hcf : m.cls = cf := by
    obtain ⟨_, _, c', _, _, _, -, -, hf', -, -, -, hown2, -⟩ := Cond.laysFinal_spec hlay
    have e1 : c' = cf := by have := hi.symm.trans hf'; simp at this; exact this.1.symm
    rw [hdecl] at hown2
    rw [← e1]; exact Option.some.inj (hown.symm.trans hown2)
  have h6 := u_fits hfc hkC hkind (Or.inr hlay) hi (ht.1 k hk) hn hfit
  refine W.putFinK hC.1 hC.2.1 hown (hts _ hlink) hi hst hcf (hC.2.2.2.2.2.2.2.1.trans hinit) (by rw [q2]; exact h6) q1 q3 (by rw [hsl]; exact k2_hasslot (q4 k hk)) rfl rfl hd fun H' e1 e2 e3 => ?_
  rw [hsl] at e1 ⊢
  exact kw H' _ ⟨_, hc, t_OB.to (V := updV (vp_V fs) k v) ⟨_, e1, q2, q3, t_set q4 hap hk v⟩ (fun j _ => vp_updV_set hl v j)⟩ e2 e3 (fun q hq => by rw [List.mem_singleton.mp hq])
/-- arrays -/
theorem z_arr {H : Heap} {a : Nat} {x : vp_A} {cA : ClassId} (hR : zR G w H) (ha : w.1 a = some (.inl (cA, x))) : H[a]? = some (vp_cell cA x) := (hR.1 a _ ha).2
theorem z_ty {p : Program} {s : State} {m : MethodId} {args : Array Value} {meth : Method} {c : Code} (hC : zCx G y p s m args meth c) (t : Nat) {ty : FieldType} (ht : (zTy (gA G))[t]? = some (gA G t, ty)) : ArrOfT s (gA G t) ty ∧ va_RA s (gA G t) ty := hC.2.2.2.2.2.2.2.2.1.2 t _ ht
theorem z_iald {a n : Nat} {f : Nat → Int32} {i : Int32} (hd : decode y.2.1 pc = .ok (.iaload, 1)) (ha : w.1 a = some (.inl (gA G 1, n, .inl f))) (hin : vp_in i n) (kk : zX G d y (pc + 1) l (.int (f i.toNatClampNeg) :: st) w Q) : zX G d y pc l (.int i :: .ref a :: st) w Q := by
  refine zX.same (fun p l0 e R s m args below meth c H locs cells slots Z ls hC hR hl kw => ?_) kk
  have hlt : i.toNatClampNeg < n := Nat.not_le.mp fun q => hin (Or.inr q)
  exact W.iald (v := .int (f i.toNatClampNeg)) hC.1 hC.2.1 (z_arr hR ha) ((z_ty hC 1 rfl).1 n (fun j => .int (f j))) (fun q => by cases q) (by show ¬ (i < 0 ∨ (arrV _ _ _).slots.size ≤ _); rw [arrV_size]; exact hin) (by show (arrV _ _ _).slots[_]? = _; rw [arrV_read _ _ hlt]) rfl rfl hd kw
theorem z_bald {a n : Nat} {f : Nat → Int32} {i : Int32} (hd : decode y.2.1 pc = .ok (.baload, 1)) (ha : w.1 a = some (.inl (gA G 0, n, .inl f))) (hin : vp_in i n) (kk : zX G d y (pc + 1) l (.int (f i.toNatClampNeg) :: st) w Q) : zX G d y pc l (.int i :: .ref a :: st) w Q := by
  refine zX.same (fun p l0 e R s m args below meth c H locs cells slots Z ls hC hR hl kw => ?_) kk
  have hlt : i.toNatClampNeg < n := Nat.not_le.mp fun q => hin (Or.inr q)
  exact W.bald (v := .int (f i.toNatClampNeg)) hC.1 hC.2.1 (z_arr hR ha) ((z_ty hC 0 rfl).1 n (fun j => .int (f j))) (fun q => by cases q) (by show ¬ (i < 0 ∨ (arrV _ _ _).slots.size ≤ _); rw [arrV_size]; exact hin) (by show (arrV _ _ _).slots[_]? = _; rw [arrV_read _ _ hlt]) rfl rfl hd kw
theorem z_zald {a n : Nat} {f : Nat → Int32} {i : Int32} (hd : decode y.2.1 pc = .ok (.baload, 1)) (ha : w.1 a = some (.inl (gA G 3, n, .inl f))) (hin : vp_in i n) (kk : zX G d y (pc + 1) l (.int (f i.toNatClampNeg) :: st) w Q) : zX G d y pc l (.int i :: .ref a :: st) w Q := by
  refine zX.same (fun p l0 e R s m args below meth c H locs cells slots Z ls hC hR hl kw => ?_) kk
  have hlt : i.toNatClampNeg < n := Nat.not_le.mp fun q => hin (Or.inr q)
  exact W.zald (v := .int (f i.toNatClampNeg)) hC.1 hC.2.1 (z_arr hR ha) ((z_ty hC 3 rfl).1 n (fun j => .int (f j))) (fun q => by cases q) (by show ¬ (i < 0 ∨ (arrV _ _ _).slots.size ≤ _); rw [arrV_size]; exact hin) (by show (arrV _ _ _).slots[_]? = _; rw [arrV_read _ _ hlt]) rfl rfl hd kw
theorem z_lald {a n : Nat} {f : Nat → Int64} {i : Int32} (hd : decode y.2.1 pc = .ok (.laload, 1)) (ha : w.1 a = some (.inl (gA G 2, n, .inr (.inl f)))) (hin : vp_in i n) (kk : zX G d y (pc + 1) l (.long (f i.toNatClampNeg) :: st) w Q) : zX G d y pc l (.int i :: .ref a :: st) w Q := by
  refine zX.same (fun p l0 e R s m args below meth c H locs cells slots Z ls hC hR hl kw => ?_) kk
  have hlt : i.toNatClampNeg < n := Nat.not_le.mp fun q => hin (Or.inr q)
  exact W.lald (v := .long (f i.toNatClampNeg)) hC.1 hC.2.1 (z_arr hR ha) ((z_ty hC 2 rfl).1 n (fun j => .long (f j))) (fun q => by cases q) (by show ¬ (i < 0 ∨ (arrV _ _ _).slots.size ≤ _); rw [arrV_size]; exact hin) (by show (arrV _ _ _).slots[_]? = _; rw [arrV_read _ _ hlt]) rfl rfl hd kw
theorem z_aald {t a n : Nat} {ty : FieldType} {f : Nat → Option Nat} {i : Int32} (htt : (zTy (gA G))[t]? = some (gA G t, ty)) (href : ty.isReference = true) (hd : decode y.2.1 pc = .ok (.aaload, 1)) (ha : w.1 a = some (.inl (gA G t, n, .inr (.inr (.inr (.inr f)))))) (hin : vp_in i n) (kk : zX G d y (pc + 1) l (va_rf (f i.toNatClampNeg) :: st) w Q) : zX G d y pc l (.int i :: .ref a :: st) w Q := by
  refine zX.same (fun p l0 e R s m args below meth c H locs cells slots Z ls hC hR hl kw => ?_) kk
  have hlt : i.toNatClampNeg < n := Nat.not_le.mp fun q => hin (Or.inr q)
  exact W.aald (v := va_rf (f i.toNatClampNeg)) hC.1 hC.2.1 (z_arr hR ha) ((z_ty hC t htt).1 n (fun j => va_rf (f j))) href (fun q => by cases q) (by show ¬ (i < 0 ∨ (arrV _ _ _).slots.size ≤ _); rw [arrV_size]; exact hin) (by show (arrV _ _ _).slots[_]? = _; rw [arrV_read _ _ hlt]) rfl rfl hd kw
theorem z_alen {a t : Nat} {x : vp_A} {ty : FieldType} {v : Int32} (htt : (zTy (gA G))[t]? = some (gA G t, ty)) (hd : decode y.2.1 pc = .ok (.arraylength, 1)) (ha : w.1 a = some (.inl (gA G t, x))) (hv : Int32.ofNat x.1 = v) (kk : zX G d y (pc + 1) l (.int v :: st) w Q) : zX G d y pc l (.ref a :: st) w Q := by
  refine zX.same (fun p l0 e R s m args below meth c H locs cells slots Z ls hC hR hl kw => ?_) kk
  have hP : va_P (gD G) vwCl [(a, .inl (gA G t, x))] H := fun j q hq => by
    have hj : j < 1 := (List.getElem?_eq_some_iff.mp hq).1
    rw [show j = 0 by omega] at hq
    cases hq
    exact (hR.1 a _ ha).2
  exact va_alen hC.1 hC.2.1 hC.2.2.2.2.2.2.2.2.1 hP 0 t rfl htt hv hd kw
theorem z_iast {a n : Nat} {f : Nat → Int32} {i x : Int32} (hne : gA G 1 ≠ gA G 0) (hd : decode y.2.1 pc = .ok (.iastore, 1)) (ha : w.1 a = some (.inl (gA G 1, n, .inl f))) (hin : vp_in i n) (kk : zX G d y (pc + 1) l st (zUp w a (.inl (gA G 1, n, .inl (upd f i.toNatClampNeg x)))) Q) : zX G d y pc l (.int x :: .int i :: .ref a :: st) w Q := by
  refine zW.put ha (fun p l0 e R s m args below meth c H locs cells slots Z ls hC _ _ hR hl0 kw => ?_) (fun n f h => by simp only [Sum.inl.injEq, Prod.mk.injEq] at h; exact absurd h.1 hne) kk
  refine W.iast hC.1 hC.2.1 (z_arr hR ha) ((z_ty hC 1 rfl).1 n (fun j => .int (f j))) (fun q => by cases q) (by show ¬ (i < 0 ∨ (arrV _ _ _).slots.size ≤ _); rw [arrV_size]; exact hin) rfl rfl hd fun H1 e z oq => ?_
  refine kw H1 _ ?_ z oq (fun q hq => by rw [List.mem_singleton.mp hq])
  show H1[a]? = some (vp_cell _ _)
  rw [e, vp_cell_i, vp_cell_i, arrV_store]
  congr 2
  funext q
  by_cases hq : q = i.toNatClampNeg
  · subst hq
    simp [updV, upd]
  · simp [updV, upd, hq]
theorem z_bast {a n : Nat} {f : Nat → Int32} {i x : Int32} (hfs : ∀ j, fits .byte (.int (f j)) = true) (hd : decode y.2.1 pc = .ok (.bastore, 1)) (ha : w.1 a = some (.inl (gA G 0, n, .inl f))) (hin : vp_in i n) (kk : zX G d y (pc + 1) l st (zUp w a (.inl (gA G 0, n, .inl (upd f i.toNatClampNeg x.toInt8.toInt32)))) Q) : zX G d y pc l (.int x :: .int i :: .ref a :: st) w Q := by
  refine zW.put ha (fun p l0 e R s m args below meth c H locs cells slots Z ls hC _ _ hR hl0 kw => ?_) (fun n2 f2 h => ?_) kk
  · refine W.bast hC.1 hC.2.1 (z_arr hR ha) ((z_ty hC 0 rfl).1 n (fun j => .int (f j))) (fun q => by cases q) (by show ¬ (i < 0 ∨ (arrV _ _ _).slots.size ≤ _); rw [arrV_size]; exact hin) rfl rfl hd fun H1 e z oq => ?_
    refine kw H1 _ ?_ z oq (fun q hq => by rw [List.mem_singleton.mp hq])
    show H1[a]? = some (vp_cell _ _)
    rw [e, vp_cell_i, vp_cell_i, arrV_store]
    congr 2
    funext q
    by_cases hq : q = i.toNatClampNeg
    · subst hq
      simp [updV, upd, narrow_byte]
    · simp [updV, upd, hq]
  · simp only [Sum.inl.injEq, Prod.mk.injEq, true_and] at h
    obtain ⟨-, rfl⟩ := h
    intro j
    by_cases hj : j = i.toNatClampNeg
    · simp only [upd, hj, if_true]
      exact pk_fb x
    · simp only [upd, hj, if_false]
      exact hfs j
theorem z_zast {a n : Nat} {f : Nat → Int32} {i x : Int32} (hne : gA G 3 ≠ gA G 0) (hx : narrow .boolean (.int x) = .int x) (hd : decode y.2.1 pc = .ok (.bastore, 1)) (ha : w.1 a = some (.inl (gA G 3, n, .inl f))) (hin : vp_in i n) (kk : zX G d y (pc + 1) l st (zUp w a (.inl (gA G 3, n, .inl (upd f i.toNatClampNeg x)))) Q) : zX G d y pc l (.int x :: .int i :: .ref a :: st) w Q := by
  refine zW.put ha (fun p l0 e R s m args below meth c H locs cells slots Z ls hC _ _ hR hl0 kw => ?_) (fun n f h => by simp only [Sum.inl.injEq, Prod.mk.injEq] at h; exact absurd h.1 hne) kk
  refine W.zast hC.1 hC.2.1 (z_arr hR ha) ((z_ty hC 3 rfl).1 n (fun j => .int (f j))) (fun q => by cases q) (by show ¬ (i < 0 ∨ (arrV _ _ _).slots.size ≤ _); rw [arrV_size]; exact hin) rfl rfl hd fun H1 e z oq => ?_
  refine kw H1 _ ?_ z oq (fun q hq => by rw [List.mem_singleton.mp hq])
  show H1[a]? = some (vp_cell _ _)
  rw [e, vp_cell_i, vp_cell_i, arrV_store]
  congr 2
  funext q
  by_cases hq : q = i.toNatClampNeg
  · subst hq
    simp [updV, upd, hx]
  · simp [updV, upd, hq]
theorem z_last {a n : Nat} {f : Nat → Int64} {i : Int32} {x : Int64} (hd : decode y.2.1 pc = .ok (.lastore, 1)) (ha : w.1 a = some (.inl (gA G 2, n, .inr (.inl f)))) (hin : vp_in i n) (kk : zX G d y (pc + 1) l st (zUp w a (.inl (gA G 2, n, .inr (.inl (vp_updL f i.toNatClampNeg x))))) Q) : zX G d y pc l (.long x :: .int i :: .ref a :: st) w Q := by
  refine zW.put ha (fun p l0 e R s m args below meth c H locs cells slots Z ls hC _ _ hR hl0 kw => ?_) (fun n f h => by simp at h) kk
  refine W.last hC.1 hC.2.1 (z_arr hR ha) ((z_ty hC 2 rfl).1 n (fun j => .long (f j))) (fun q => by cases q) (by show ¬ (i < 0 ∨ (arrV _ _ _).slots.size ≤ _); rw [arrV_size]; exact hin) rfl rfl hd fun H1 e z oq => ?_
  refine kw H1 _ ?_ z oq (fun q hq => by rw [List.mem_singleton.mp hq])
  show H1[a]? = some (vp_cell _ _)
  rw [e, vp_cell_l, vp_cell_l, arrV_store]
  congr 2
  funext q
  by_cases hq : q = i.toNatClampNeg
  · subst hq
    simp [updV, vp_updL]
  · simp [updV, vp_updL, hq]
end ZH
