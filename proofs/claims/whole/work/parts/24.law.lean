/-! THE LAW: two objects are made, the script's calls are made of both, every answer the same: over any relation Rel of the two states that every pair of calls keeps -/
theorem iL11 : Cond.instantiable RX11 4 ∈ zT := zCh_1 (List.mem_of_getElem? (i := 19) (by decide +kernel)) rfl
theorem iL12 : Cond.instantiable RX12 89 ∈ zT := zCh_6 (List.mem_of_getElem? (i := 63) (by decide +kernel)) rfl
theorem nL11 : Cond.initialized RX11 ∈ zT := zCh_1 (List.mem_of_getElem? (i := 1) (by decide +kernel)) rfl
theorem nL12 : Cond.initialized RX12 ∈ zT := zCh_1 (List.mem_of_getElem? (i := 15) (by decide +kernel)) rfl
section LW
variable {G : zG} {d : Nat × Nat} {y : zM} {pc : Nat} {l : List (Option Value)} {st : List Value} {w : zS} {Q : Option Value → zS → Prop}
theorem z_xald {i : Int32} (hb : G.2.2.2.1.2.2.1 < gN G) (hin : vp_in i G.2.2.2.1.2.2.2) (hd : decode y.2.1 pc = .ok (.iaload, 1)) (kk : zX G d y (pc + 1) l (.int (G.2.2.2.2 i.toNatClampNeg) :: st) w Q) : zX G d y pc l (.int i :: .ref G.2.2.2.1.2.2.1 :: st) w Q := by
  refine zX.same (fun p l0 e R s m args below meth c H locs cells slots Z ls hC hR hl0 kw => ?_) kk
  obtain ⟨cs, q1, q2, q3, q4, q5⟩ := hC.2.2.2.2.2.2.2.2.2.2.2.2.2.2.1
  have hlt : i.toNatClampNeg < G.2.2.2.1.2.2.2 := Nat.not_le.mp fun q => hin (Or.inr q)
  exact W.iald (v := .int (G.2.2.2.2 i.toNatClampNeg)) hC.1 hC.2.1 (by rw [hR.2.2.2.1 _ hb]; exact q1) q2 q3 (fun q => hin (q.imp id (fun q => by omega))) (q5 _ hlt) rfl rfl hd kw
theorem z_xlen (hb : G.2.2.2.1.2.2.1 < gN G) (hd : decode y.2.1 pc = .ok (.arraylength, 1)) (kk : zX G d y (pc + 1) l (.int (nI G.2.2.2.1.2.2.2) :: st) w Q) : zX G d y pc l (.ref G.2.2.2.1.2.2.1 :: st) w Q := by
  refine zX.same (fun p l0 e R s m args below meth c H locs cells slots Z ls hC hR hl0 kw => ?_) kk
  obtain ⟨cs, q1, q2, q3, q4, q5⟩ := hC.2.2.2.2.2.2.2.2.2.2.2.2.2.2.1
  exact W.alen hC.1 hC.2.1 (by rw [hR.2.2.2.1 _ hb]; exact q1) q2 (by rw [q4]; rfl) rfl rfl hd kw
end LW
theorem vx_in {i : Int32} {n k : Nat} (hi : i = nI k) (h : k < n) (hn : n < 2 ^ 31) : vp_in i n := by
  subst hi
  exact nI_in h hn
/-- the law's reader of the script -/
def xcell (G : zG) (k : Nat) : Int32 := if k < G.2.2.2.1.2.2.2 then G.2.2.2.2 k else 0
set_option maxHeartbeats 4000000 in
theorem zc_cell {G : zG} {w : zS} (hb : G.2.2.2.1.2.2.1 < gN G) (hL : G.2.2.2.1.2.2.2 ≤ 3586) (k : Nat) (hk : k < 3586) : zCi G dL_cell mL_cell [.ref G.2.2.2.1.2.2.1, .int (nI k)] w (fun v w' => v = xcell G k ∧ w' = w) := by
  refine zC.ofX rfl (Nat.le_of_ble_eq_true rfl) ?_
  show zX G dL_cell mL_cell 0 [some (.ref G.2.2.2.1.2.2.1), some (.int (nI k))] [] w _
  refine z_iload_n dL_cell_0 rfl rfl ?_
  refine z_aload_n dL_cell_1 rfl rfl ?_
  refine z_xlen hb dL_cell_2 ?_
  refine z_icmp_ge (tgt := 12) dL_cell_3 (by decide) (fun c => ?_) (fun c => ?_)
  · have hk2 : ¬ k < G.2.2.2.1.2.2.2 := fun h => nI_ge h (by omega) c
    refine z_iconst (v := nI 0) dL_cell_12 (by decide) ?_
    refine z_ireturn rfl rfl dL_cell_13 ⟨nI 0, rfl, ?_, rfl⟩
    unfold xcell
    rw [if_neg hk2]
    rfl
  · have hk2 : k < G.2.2.2.1.2.2.2 := Nat.not_le.mp fun h => c (nI_le h (by omega))
    refine z_aload_n dL_cell_6 rfl rfl ?_
    refine z_iload_n dL_cell_7 rfl rfl ?_
    refine z_xald hb (nI_in hk2 (by omega)) dL_cell_8 ?_
    refine z_goto (tgt := 13) dL_cell_9 (by decide) ?_
    refine z_ireturn rfl rfl dL_cell_13 ⟨_, rfl, ?_, rfl⟩
    unfold xcell
    rw [if_pos hk2, nI_clamp (by omega)]
/-- both stand in one world: the class's cells, the reference's -/
def pI (G : zG) (a : Nat) (s : cS) (S : rS) (w : zS) : Prop := (∀ q, cK s q ≠ 0 → w.1 q = some (cenc G s q)) ∧ rM G (a, rP a, w) S w ∧ w.2.1 = cn s ∧ w.2.2 = ck s ∧ (∀ q, cn s ≤ q → cK s q = 0) ∧ a + 69 ≤ cn s ∧ ∀ q, a ≤ q → q < a + 69 → cK s q = 0
def pO (a : Nat) (w : zS) : cO := (w.1, (fun q => a ≤ q ∧ q < a + 69), a + 69)
theorem rP_in {a k : Nat} (hk : k < 89) (h : rarr k) : a ≤ rP a k ∧ rP a k < a + 69 := by
  have g2 := (rO_inv k hk (by unfold rarr at h; omega)).2
  unfold rP
  omega
theorem pI.c {G : zG} {a : Nat} {s : cS} {S : rS} {w : zS} (h : pI G a s S w) : cM G (pO a w) s w :=
  ⟨h.1, fun q _ => rfl, h.2.2.1, h.2.2.2.1, h.2.2.2.2.1, h.2.2.2.2.2.1, fun q hq => ⟨hq.2, h.2.2.2.2.2.2 q hq.1 hq.2⟩⟩
theorem pI.c' {G : zG} {a : Nat} {s s' : cS} {S : rS} {w w' : zS} (h : pI G a s S w) (h' : cM G (pO a w) s' w') : pI G a s' S w' := by
  obtain ⟨h1, h2, h3, h4, h5, h6, h7⟩ := h
  obtain ⟨g1, g2, g3, g4, g5, g6, g7⟩ := h'
  have e : ∀ q, a ≤ q → q < a + 69 → w'.1 q = w.1 q := fun q q1 q2 => g2 q (g7 q ⟨q1, q2⟩).2
  have er : ∀ k, k < 89 → rarr k → w'.1 (rP a k) = w.1 (rP a k) := fun k hk hr => e _ (rP_in hk hr).1 (rP_in hk hr).2
  obtain ⟨r1, r2, r3, r4, r5, r6⟩ := h2
  exact ⟨g1, ⟨(e a (by omega) (by omega)).trans r1, fun k hk hr => (er k hk (Or.inl hr)).trans (r2 k hk hr), fun k hk hr => (er k hk (Or.inr (Or.inl hr))).trans (r3 k hk hr), fun k hk hr => (er k hk (Or.inr (Or.inr hr))).trans (r4 k hk hr), r5, r6⟩, g3, g4, g5, g6, fun q q1 q2 => (g7 q ⟨q1, q2⟩).2⟩
theorem pI.r {G : zG} {a : Nat} {s : cS} {S : rS} {w : zS} (h : pI G a s S w) : rI G (a, rP a, w) S w := ⟨h.2.1, rfl, fun _ _ _ => rfl⟩
theorem pI.r' {G : zG} {a : Nat} {s : cS} {S S' : rS} {w w' : zS} (h : pI G a s S w) (h' : rI G (a, rP a, w) S' w') : pI G a s S' w' := by
  obtain ⟨h1, h2, h3, h4, h5, h6, h7⟩ := h
  obtain ⟨g1, g2, g3⟩ := h'
  have g2 : w'.2 = w.2 := g2
  refine ⟨fun q hq => ?_, g1, by rw [g2]; exact h3, by rw [g2]; exact h4, h5, h6, h7⟩
  have hn : ¬ (a ≤ q ∧ q < a + 69) := fun z => hq (h7 q z.1 z.2)
  rw [← h1 q hq]
  exact g3 q (fun e => hn (by rw [e]; show a ≤ a ∧ a < a + 69; omega)) (fun k hk hr e => hn (by rw [e]; exact rP_in hk hr))
/-- the class's state before anything, above the address g; a state whose bounds are set -/
def cE (g : Nat) : cS := (fun _ => 0, fun _ _ => 0, fun _ _ => none, fun _ => 0, fun _ _ => 0, fun _ _ => 0, fun _ _ => none, g, 0)
def csB (s : cS) (n k : Nat) : cS := (s.1, s.2.1, s.2.2.1, s.2.2.2.1, s.2.2.2.2.1, s.2.2.2.2.2.1, s.2.2.2.2.2.2.1, n, k)
/-- faults, liars, nodes, honest ones, as the makers read their numbers -/
def iF (x1 : Int32) : Nat := if 1 ≤ x1.toInt ∧ x1.toInt ≤ 4 then x1.toNatClampNeg else 1
def iL (x1 x2 : Int32) : Nat := if 0 ≤ x2.toInt ∧ x2.toInt ≤ iF x1 then x2.toNatClampNeg else 0
def iT (x1 : Int32) : Nat := 3 * iF x1 + 1
def iH (x1 x2 : Int32) : Nat := iT x1 - iL x1 x2
def p0c (N g : Nat) (x1 x2 : Int32) : cS := k_X11_init N g (iH x1 x2) (iT x1) (csNew (cE g) 10 4) g x1 x2
def p0 (N g : Nat) (x1 x2 : Int32) : cS := csB (p0c N g x1 x2) (cn (p0c N g x1 x2) + 69) (ck (p0c N g x1 x2) + 89 + rSum 68)
def pS_init (N g : Nat) (Rel : Nat → Nat → Nat → cS → rS → Prop) : Prop := ∀ x1 x2, p_X11_init N g (iH x1 x2) (iT x1) (csNew (cE g) 10 4) g x1 x2 ∧ o_init N x1 x2 ∧ Rel (iH x1 x2) (iT x1) 0 (p0 N g x1 x2) (f_init N x1 x2)
def pS_kind (g : Nat) (Rel : Nat → Nat → Nat → cS → rS → Prop) : Prop := ∀ H T j s S, Rel H T j s S → St 1 g H T s
def pS_skip (Rel : Nat → Nat → Nat → cS → rS → Prop) : Prop := ∀ H T j s S, Rel H T j s S → Rel H T (j + 1) s S
def pS_room (g : Nat) (Rel : Nat → Nat → Nat → cS → rS → Prop) : Prop := ∀ H T j s S, Rel H T j s S → cn s ≤ g + 600000 ∧ ck s ≤ 7302250
def pS_feed (N g : Nat) (Rel : Nat → Nat → Nat → cS → rS → Prop) : Prop := ∀ (H T j : Nat) (s : cS) (S : rS) (x1 x2 x3 x4 x5 : Int32), j < 512 → Rel H T j s S → p_X11_feed N g H T s g x1 x2 x3 x4 x5 ∧ o_feed N S x1 x2 x3 x4 x5 ∧ (k_X11_feed N g H T s g x1 x2 x3 x4 x5).1 = (f_feed N S x1 x2 x3 x4 x5).1 ∧ Rel H T (j + 1) (k_X11_feed N g H T s g x1 x2 x3 x4 x5).2 (f_feed N S x1 x2 x3 x4 x5).2
def pS_lie (N g : Nat) (Rel : Nat → Nat → Nat → cS → rS → Prop) : Prop := ∀ (H T j : Nat) (s : cS) (S : rS) (x1 x2 x3 : Int32), j < 512 → Rel H T j s S → p_X11_lie N g H T s g x1 x2 x3 ∧ o_lie N S x1 x2 x3 ∧ (k_X11_lie N g H T s g x1 x2 x3).1 = (f_lie N S x1 x2 x3).1 ∧ Rel H T (j + 1) (k_X11_lie N g H T s g x1 x2 x3).2 (f_lie N S x1 x2 x3).2
def pS_pass (N g : Nat) (Rel : Nat → Nat → Nat → cS → rS → Prop) : Prop := ∀ (H T j : Nat) (s : cS) (S : rS) (x1 x2 x3 : Int32), j < 512 → Rel H T j s S → p_X11_pass N g H T s g x1 x2 x3 ∧ o_pass N S x1 x2 x3 ∧ (k_X11_pass N g H T s g x1 x2 x3).1 = (f_pass N S x1 x2 x3).1 ∧ Rel H T (j + 1) (k_X11_pass N g H T s g x1 x2 x3).2 (f_pass N S x1 x2 x3).2
def pS_seal (N g : Nat) (Rel : Nat → Nat → Nat → cS → rS → Prop) : Prop := ∀ (H T j : Nat) (s : cS) (S : rS) (x1 x2 x3 : Int32), j < 512 → Rel H T j s S → p_X11_seal N g H T s g x1 x2 x3 ∧ o_seal N S x1 x2 x3 ∧ (k_X11_seal N g H T s g x1 x2 x3).1 = (f_seal N S x1 x2 x3).1 ∧ Rel H T (j + 1) (k_X11_seal N g H T s g x1 x2 x3).2 (f_seal N S x1 x2 x3).2
def pS_stamp (N g : Nat) (Rel : Nat → Nat → Nat → cS → rS → Prop) : Prop := ∀ (H T j : Nat) (s : cS) (S : rS) (x1 x2 x3 : Int32), j < 512 → Rel H T j s S → p_X11_stamp N g H T s g x1 x2 x3 ∧ o_stamp N S x1 x2 x3 ∧ (k_X11_stamp N g H T s g x1 x2 x3).1 = (f_stamp N S x1 x2 x3).1 ∧ Rel H T (j + 1) (k_X11_stamp N g H T s g x1 x2 x3).2 (f_stamp N S x1 x2 x3).2
def pS_hash (N g : Nat) (Rel : Nat → Nat → Nat → cS → rS → Prop) : Prop := ∀ (H T j : Nat) (s : cS) (S : rS) (x1 x2 : Int32), j < 512 → Rel H T j s S → p_X11_hash N g H T s g x1 x2 ∧ o_hash N S x1 x2 ∧ (k_X11_hash N g H T s g x1 x2).1 = (f_hash N S x1 x2).1 ∧ Rel H T (j + 1) (k_X11_hash N g H T s g x1 x2).2 (f_hash N S x1 x2).2
def pS_submit (N g : Nat) (Rel : Nat → Nat → Nat → cS → rS → Prop) : Prop := ∀ (H T j : Nat) (s : cS) (S : rS) (x1 x2 x3 x4 x5 x6 : Int32), j < 512 → Rel H T j s S → p_X11_submit N g H T s g x1 x2 x3 x4 x5 x6 ∧ o_submit N S x1 x2 x3 x4 x5 x6 ∧ (k_X11_submit N g H T s g x1 x2 x3 x4 x5 x6).1 = (f_submit N S x1 x2 x3 x4 x5 x6).1 ∧ Rel H T (j + 1) (k_X11_submit N g H T s g x1 x2 x3 x4 x5 x6).2 (f_submit N S x1 x2 x3 x4 x5 x6).2
def pS_deliver (N g : Nat) (Rel : Nat → Nat → Nat → cS → rS → Prop) : Prop := ∀ (H T j : Nat) (s : cS) (S : rS) (x1 : Int32), j < 512 → Rel H T j s S → p_X11_deliver N g H T s g x1 ∧ o_deliver N S x1 ∧ (k_X11_deliver N g H T s g x1).1 = (f_deliver N S x1).1 ∧ Rel H T (j + 1) (k_X11_deliver N g H T s g x1).2 (f_deliver N S x1).2
def pS_calm (N g : Nat) (Rel : Nat → Nat → Nat → cS → rS → Prop) : Prop := ∀ (H T j : Nat) (s : cS) (S : rS) (x1 x2 : Int32), j < 512 → Rel H T j s S → p_X11_calm N g H T s g x1 x2 ∧ o_calm N S x1 x2 ∧ (k_X11_calm N g H T s g x1 x2).1 = (f_calm N S x1 x2).1 ∧ Rel H T (j + 1) (k_X11_calm N g H T s g x1 x2).2 (f_calm N S x1 x2).2
def pS_copy (N g : Nat) (Rel : Nat → Nat → Nat → cS → rS → Prop) : Prop := ∀ (H T j : Nat) (s : cS) (S : rS) (x1 : Int32), j < 512 → Rel H T j s S → p_X11_copy N g H T s g x1 ∧ o_copy N S x1 ∧ (k_X11_copy N g H T s g x1).1 = (f_copy N S x1).1 ∧ Rel H T (j + 1) (k_X11_copy N g H T s g x1).2 (f_copy N S x1).2
def pS_flying (N g : Nat) (Rel : Nat → Nat → Nat → cS → rS → Prop) : Prop := ∀ (H T j : Nat) (s : cS) (S : rS) (x1 x2 : Int32), j < 512 → Rel H T j s S → p_X11_flying N g H T s g x1 x2 ∧ o_flying N S x1 x2 ∧ (k_X11_flying N g H T s g x1 x2) = (f_flying N S x1 x2) ∧ Rel H T (j + 1) s S
def pS_bytes (N g : Nat) (Rel : Nat → Nat → Nat → cS → rS → Prop) : Prop := ∀ (H T j : Nat) (s : cS) (S : rS) (x1 x2 : Int32), j < 512 → Rel H T j s S → p_X11_bytes N g H T s g x1 x2 ∧ o_bytes N S x1 x2 ∧ (k_X11_bytes N g H T s g x1 x2) = (f_bytes N S x1 x2) ∧ Rel H T (j + 1) s S
def pS_tick (N g : Nat) (Rel : Nat → Nat → Nat → cS → rS → Prop) : Prop := ∀ (H T j : Nat) (s : cS) (S : rS), j < 512 → Rel H T j s S → p_X11_tick N g H T s g ∧ o_tick N S ∧ (k_X11_tick N g H T s g).1 = (f_tick N S).1 ∧ Rel H T (j + 1) (k_X11_tick N g H T s g).2 (f_tick N S).2
def pS_crash (N g : Nat) (Rel : Nat → Nat → Nat → cS → rS → Prop) : Prop := ∀ (H T j : Nat) (s : cS) (S : rS) (x1 : Int32), j < 512 → Rel H T j s S → p_X11_crash N g H T s g x1 ∧ o_crash N S x1 ∧ (k_X11_crash N g H T s g x1).1 = (f_crash N S x1).1 ∧ Rel H T (j + 1) (k_X11_crash N g H T s g x1).2 (f_crash N S x1).2
def pS_cut (N g : Nat) (Rel : Nat → Nat → Nat → cS → rS → Prop) : Prop := ∀ (H T j : Nat) (s : cS) (S : rS) (x1 x2 : Int32), j < 512 → Rel H T j s S → p_X11_cut N g H T s g x1 x2 ∧ o_cut N S x1 x2 ∧ (k_X11_cut N g H T s g x1 x2).1 = (f_cut N S x1 x2).1 ∧ Rel H T (j + 1) (k_X11_cut N g H T s g x1 x2).2 (f_cut N S x1 x2).2
def pS_restart (N g : Nat) (Rel : Nat → Nat → Nat → cS → rS → Prop) : Prop := ∀ (H T j : Nat) (s : cS) (S : rS) (x1 : Int32), j < 512 → Rel H T j s S → p_X11_restart N g H T s g x1 ∧ o_restart N S x1 ∧ (k_X11_restart N g H T s g x1).1 = (f_restart N S x1).1 ∧ Rel H T (j + 1) (k_X11_restart N g H T s g x1).2 (f_restart N S x1).2
def pS_state (N g : Nat) (Rel : Nat → Nat → Nat → cS → rS → Prop) : Prop := ∀ (H T j : Nat) (s : cS) (S : rS) (x1 x2 : Int32), j < 512 → Rel H T j s S → p_X11_state N g H T s g x1 x2 ∧ o_state N S x1 x2 ∧ (k_X11_state N g H T s g x1 x2) = (f_state N S x1 x2) ∧ Rel H T (j + 1) s S
def pS_block (N g : Nat) (Rel : Nat → Nat → Nat → cS → rS → Prop) : Prop := ∀ (H T j : Nat) (s : cS) (S : rS) (x1 x2 x3 : Int32), j < 512 → Rel H T j s S → p_X11_block N g H T s g x1 x2 x3 ∧ o_block N S x1 x2 x3 ∧ (k_X11_block N g H T s g x1 x2 x3).1 = (f_block N S x1 x2 x3) ∧ Rel H T (j + 1) (k_X11_block N g H T s g x1 x2 x3).2 S
def pS_paid (N g : Nat) (Rel : Nat → Nat → Nat → cS → rS → Prop) : Prop := ∀ (H T j : Nat) (s : cS) (S : rS) (x1 x2 : Int32), j < 512 → Rel H T j s S → p_X11_paid N g H T s g x1 x2 ∧ o_paid N S x1 x2 ∧ (k_X11_paid N g H T s g x1 x2) = (f_paid N S x1 x2).1 ∧ Rel H T (j + 1) s (f_paid N S x1 x2).2
def pS_path_ (N g : Nat) (Rel : Nat → Nat → Nat → cS → rS → Prop) : Prop := ∀ (H T j : Nat) (s : cS) (S : rS) (x1 x2 x3 x4 : Int32), j < 512 → Rel H T j s S → p_X11_path N g H T s g x1 x2 x3 x4 ∧ o_path_ N S x1 x2 x3 x4 ∧ (k_X11_path N g H T s g x1 x2 x3 x4).1 = (f_path_ N S x1 x2 x3 x4).1 ∧ Rel H T (j + 1) (k_X11_path N g H T s g x1 x2 x3 x4).2 (f_path_ N S x1 x2 x3 x4).2
def pS_account (N g : Nat) (Rel : Nat → Nat → Nat → cS → rS → Prop) : Prop := ∀ (H T j : Nat) (s : cS) (S : rS) (x1 x2 x3 : Int32), j < 512 → Rel H T j s S → p_X11_account N g H T s g x1 x2 x3 ∧ o_account N S x1 x2 x3 ∧ (k_X11_account N g H T s g x1 x2 x3).1 = (f_account N S x1 x2 x3).1 ∧ Rel H T (j + 1) (k_X11_account N g H T s g x1 x2 x3).2 (f_account N S x1 x2 x3).2
def pS_sector (N g : Nat) (Rel : Nat → Nat → Nat → cS → rS → Prop) : Prop := ∀ (H T j : Nat) (s : cS) (S : rS) (x1 x2 x3 : Int32), j < 512 → Rel H T j s S → p_X11_sector N g H T s g x1 x2 x3 ∧ o_sector N S x1 x2 x3 ∧ (k_X11_sector N g H T s g x1 x2 x3) = (f_sector N S x1 x2 x3) ∧ Rel H T (j + 1) s S
def pS_proof (N g : Nat) (Rel : Nat → Nat → Nat → cS → rS → Prop) : Prop := ∀ (H T j : Nat) (s : cS) (S : rS) (x1 x2 x3 : Int32), j < 512 → Rel H T j s S → p_X11_proof N g H T s g x1 x2 x3 ∧ o_proof N S x1 x2 x3 ∧ (k_X11_proof N g H T s g x1 x2 x3).1 = (f_proof N S x1 x2 x3).1 ∧ Rel H T (j + 1) (k_X11_proof N g H T s g x1 x2 x3).2 (f_proof N S x1 x2 x3).2
def pS_balance (N g : Nat) (Rel : Nat → Nat → Nat → cS → rS → Prop) : Prop := ∀ (H T j : Nat) (s : cS) (S : rS) (x1 x2 : Int32), j < 512 → Rel H T j s S → p_X11_balance N g H T s g x1 x2 ∧ o_balance N S x1 x2 ∧ (k_X11_balance N g H T s g x1 x2) = (f_balance N S x1 x2).1 ∧ Rel H T (j + 1) s (f_balance N S x1 x2).2
def pS_count (N g : Nat) (Rel : Nat → Nat → Nat → cS → rS → Prop) : Prop := ∀ (H T j : Nat) (s : cS) (S : rS) (x1 : Int32), j < 512 → Rel H T j s S → p_X11_count N g H T s g x1 ∧ o_count N S x1 ∧ (k_X11_count N g H T s g x1) = (f_count N S x1) ∧ Rel H T (j + 1) s S
def pS_all (N g : Nat) (Rel : Nat → Nat → Nat → cS → rS → Prop) : Prop := pS_init N g Rel ∧ pS_kind g Rel ∧ pS_room g Rel ∧ pS_skip Rel ∧ pS_feed N g Rel ∧ pS_lie N g Rel ∧ pS_pass N g Rel ∧ pS_seal N g Rel ∧ pS_stamp N g Rel ∧ pS_hash N g Rel ∧ pS_submit N g Rel ∧ pS_deliver N g Rel ∧ pS_calm N g Rel ∧ pS_copy N g Rel ∧ pS_flying N g Rel ∧ pS_bytes N g Rel ∧ pS_tick N g Rel ∧ pS_crash N g Rel ∧ pS_cut N g Rel ∧ pS_restart N g Rel ∧ pS_state N g Rel ∧ pS_block N g Rel ∧ pS_paid N g Rel ∧ pS_path_ N g Rel ∧ pS_account N g Rel ∧ pS_sector N g Rel ∧ pS_proof N g Rel ∧ pS_balance N g Rel ∧ pS_count N g Rel
set_option maxHeartbeats 4000000 in
theorem lw_feed {G : zG} {N g H T a j : Nat} {s : cS} {S : rS} {w : zS} {Rel : Nat → Nat → Nat → cS → rS → Prop} {Q : Option Value → zS → Prop} (hG : zOK G) (hb : G.2.2.2.1.2.2.1 < gN G) (hL : G.2.2.2.1.2.2.2 ≤ 3586) (hj : 2 + 7 * j + 7 ≤ G.2.2.2.1.2.2.2) (hK : pS_kind g Rel) (h : pS_feed N g Rel) (hw : pI G a s S w) (hR : Rel H T j s S) (kk : ∀ s' S' w', pI G a s' S' w' → Rel H T (j + 1) s' S' → zX G dL_law mL_law 1101 [some (.ref G.2.2.2.1.2.2.1), some (.ref g), some (.ref a), some (.int (nI (2 + 7 * j)))] [] w' Q) : zX G dL_law mL_law 168 [some (.ref G.2.2.2.1.2.2.1), some (.ref g), some (.ref a), some (.int (nI (2 + 7 * j)))] [] w Q := by
  obtain ⟨h1, h2, h3, h4⟩ := h H T j s S (G.2.2.2.2 (nI (2 + 7 * j) + nI 1).toNatClampNeg) (G.2.2.2.2 (nI (2 + 7 * j) + nI 2).toNatClampNeg) (G.2.2.2.2 (nI (2 + 7 * j) + nI 3).toNatClampNeg) (G.2.2.2.2 (nI (2 + 7 * j) + nI 4).toNatClampNeg) (G.2.2.2.2 (nI (2 + 7 * j) + nI 5).toNatClampNeg) (by omega) hR
  have e : ∀ k, k < 7 → vp_in (nI (2 + 7 * j) + nI k) G.2.2.2.1.2.2.2 := fun k hk => vx_in (k := 2 + 7 * j + k) (by unfold nI; rw [← Int32.ofNat_add]) (by omega) (by omega)
  refine z_aload_n dL_law_168 rfl rfl ?_
  refine z_aload_n dL_law_169 rfl rfl ?_
  refine z_iload_n dL_law_170 rfl rfl ?_
  refine z_iconst (v := nI 1) dL_law_171 (by decide) ?_
  refine z_iadd dL_law_172 ?_
  refine z_xald hb (e _ (by decide)) dL_law_173 ?_
  refine z_aload_n dL_law_174 rfl rfl ?_
  refine z_iload_n dL_law_175 rfl rfl ?_
  refine z_iconst (v := nI 2) dL_law_176 (by decide) ?_
  refine z_iadd dL_law_177 ?_
  refine z_xald hb (e _ (by decide)) dL_law_178 ?_
  refine z_aload_n dL_law_179 rfl rfl ?_
  refine z_iload_n dL_law_180 rfl rfl ?_
  refine z_iconst (v := nI 3) dL_law_181 (by decide) ?_
  refine z_iadd dL_law_182 ?_
  refine z_xald hb (e _ (by decide)) dL_law_183 ?_
  refine z_aload_n dL_law_184 rfl rfl ?_
  refine z_iload_n dL_law_185 rfl rfl ?_
  refine z_iconst (v := nI 4) dL_law_186 (by decide) ?_
  refine z_iadd dL_law_187 ?_
  refine z_xald hb (e _ (by decide)) dL_law_188 ?_
  refine z_aload_n dL_law_189 rfl rfl ?_
  refine z_iload_n dL_law_190 rfl rfl ?_
  refine z_iconst (v := nI 5) dL_law_191 (by decide) ?_
  refine z_iadd dL_law_192 ?_
  refine z_xald hb (e _ (by decide)) dL_law_193 ?_
  have hst := hK H T j s S hR
  have hk10 : cK s g = 10 := hst.1 9 g oQL
  have K1 := kc_X11_feed (o := pO a w) hG hst oQL h1 w hw.c
  refine z_V5i (y' := mX11_feed) (r := (RX11, TX11, 4)) (Q' := fun v w' => ∃ s', cM G (pO a w) s' w' ∧ v = (k_X11_feed N g H T s g (G.2.2.2.2 (nI (2 + 7 * j) + nI 1).toNatClampNeg) (G.2.2.2.2 (nI (2 + 7 * j) + nI 2).toNatClampNeg) (G.2.2.2.2 (nI (2 + 7 * j) + nI 3).toNatClampNeg) (G.2.2.2.2 (nI (2 + 7 * j) + nI 4).toNatClampNeg) (G.2.2.2.2 (nI (2 + 7 * j) + nI 5).toNatClampNeg)).1 ∧ s' = (k_X11_feed N g H T s g (G.2.2.2.2 (nI (2 + 7 * j) + nI 1).toNatClampNeg) (G.2.2.2.2 (nI (2 + 7 * j) + nI 2).toNatClampNeg) (G.2.2.2.2 (nI (2 + 7 * j) + nI 3).toNatClampNeg) (G.2.2.2.2 (nI (2 + 7 * j) + nI 4).toNatClampNeg) (G.2.2.2.2 (nI (2 + 7 * j) + nI 5).toNatClampNeg)).2) dL_law_194 lL_21 kX11_feed ⟨by decide, by decide⟩ ((hw.1 g (by rw [hk10]; decide)).trans (congrArg some (cenc_obj (ci := 9) hk10 (by decide)))) rfl rfl (Nat.le_of_ble_eq_true rfl) (zC.weaken K1 (fun r w' ⟨s', g1, v, g2, ⟨g3, g4⟩, _⟩ => ⟨v, g2, s', g1, g3, g4⟩)) (fun v1 w1 hq => ?_)
  obtain ⟨s1, g1, hv1, rfl⟩ := hq
  have hw1 := hw.c' g1
  refine z_aload_n dL_law_197 rfl rfl ?_
  refine z_aload_n dL_law_198 rfl rfl ?_
  refine z_iload_n dL_law_199 rfl rfl ?_
  refine z_iconst (v := nI 1) dL_law_200 (by decide) ?_
  refine z_iadd dL_law_201 ?_
  refine z_xald hb (e _ (by decide)) dL_law_202 ?_
  refine z_aload_n dL_law_203 rfl rfl ?_
  refine z_iload_n dL_law_204 rfl rfl ?_
  refine z_iconst (v := nI 2) dL_law_205 (by decide) ?_
  refine z_iadd dL_law_206 ?_
  refine z_xald hb (e _ (by decide)) dL_law_207 ?_
  refine z_aload_n dL_law_208 rfl rfl ?_
  refine z_iload_n dL_law_209 rfl rfl ?_
  refine z_iconst (v := nI 3) dL_law_210 (by decide) ?_
  refine z_iadd dL_law_211 ?_
  refine z_xald hb (e _ (by decide)) dL_law_212 ?_
  refine z_aload_n dL_law_213 rfl rfl ?_
  refine z_iload_n dL_law_214 rfl rfl ?_
  refine z_iconst (v := nI 4) dL_law_215 (by decide) ?_
  refine z_iadd dL_law_216 ?_
  refine z_xald hb (e _ (by decide)) dL_law_217 ?_
  refine z_aload_n dL_law_218 rfl rfl ?_
  refine z_iload_n dL_law_219 rfl rfl ?_
  refine z_iconst (v := nI 5) dL_law_220 (by decide) ?_
  refine z_iadd dL_law_221 ?_
  refine z_xald hb (e _ (by decide)) dL_law_222 ?_
  have K2 := rc_X12_feed (E := (a, rP a, w1)) hG h2 w1 hw1.r
  refine z_V5i (y' := mX12_feed) (r := (RX12, TX12, 89)) (Q' := fun v w' => ∃ S', rI G (a, rP a, w1) S' w' ∧ v = (f_feed N S (G.2.2.2.2 (nI (2 + 7 * j) + nI 1).toNatClampNeg) (G.2.2.2.2 (nI (2 + 7 * j) + nI 2).toNatClampNeg) (G.2.2.2.2 (nI (2 + 7 * j) + nI 3).toNatClampNeg) (G.2.2.2.2 (nI (2 + 7 * j) + nI 4).toNatClampNeg) (G.2.2.2.2 (nI (2 + 7 * j) + nI 5).toNatClampNeg)).1 ∧ S' = (f_feed N S (G.2.2.2.2 (nI (2 + 7 * j) + nI 1).toNatClampNeg) (G.2.2.2.2 (nI (2 + 7 * j) + nI 2).toNatClampNeg) (G.2.2.2.2 (nI (2 + 7 * j) + nI 3).toNatClampNeg) (G.2.2.2.2 (nI (2 + 7 * j) + nI 4).toNatClampNeg) (G.2.2.2.2 (nI (2 + 7 * j) + nI 5).toNatClampNeg)).2) dL_law_223 lL_25 kX12_feed ⟨by decide, by decide⟩ hw1.r.1.1 rfl rfl (Nat.le_of_ble_eq_true rfl) (zC.weaken K2 (fun r w' ⟨s', g1, v, g2, g3, g4⟩ => ⟨v, g2, s', g1, g3, g4⟩)) (fun v2 w2 hq => ?_)
  obtain ⟨S2, g2, hv2, rfl⟩ := hq
  have hw2 := hw1.r' g2
  have ev : v1 = v2 := by rw [hv1, hv2]; exact h3
  subst ev
  refine z_icmp_eq (tgt := 1101) dL_law_226 (by decide) (fun _ => kk _ _ _ hw2 h4) (fun c => absurd rfl c)
set_option maxHeartbeats 4000000 in
theorem lw_lie {G : zG} {N g H T a j : Nat} {s : cS} {S : rS} {w : zS} {Rel : Nat → Nat → Nat → cS → rS → Prop} {Q : Option Value → zS → Prop} (hG : zOK G) (hb : G.2.2.2.1.2.2.1 < gN G) (hL : G.2.2.2.1.2.2.2 ≤ 3586) (hj : 2 + 7 * j + 7 ≤ G.2.2.2.1.2.2.2) (hK : pS_kind g Rel) (h : pS_lie N g Rel) (hw : pI G a s S w) (hR : Rel H T j s S) (kk : ∀ s' S' w', pI G a s' S' w' → Rel H T (j + 1) s' S' → zX G dL_law mL_law 1101 [some (.ref G.2.2.2.1.2.2.1), some (.ref g), some (.ref a), some (.int (nI (2 + 7 * j)))] [] w' Q) : zX G dL_law mL_law 231 [some (.ref G.2.2.2.1.2.2.1), some (.ref g), some (.ref a), some (.int (nI (2 + 7 * j)))] [] w Q := by
  obtain ⟨h1, h2, h3, h4⟩ := h H T j s S (G.2.2.2.2 (nI (2 + 7 * j) + nI 1).toNatClampNeg) (G.2.2.2.2 (nI (2 + 7 * j) + nI 2).toNatClampNeg) (G.2.2.2.2 (nI (2 + 7 * j) + nI 3).toNatClampNeg) (by omega) hR
  have e : ∀ k, k < 7 → vp_in (nI (2 + 7 * j) + nI k) G.2.2.2.1.2.2.2 := fun k hk => vx_in (k := 2 + 7 * j + k) (by unfold nI; rw [← Int32.ofNat_add]) (by omega) (by omega)
  refine z_aload_n dL_law_231 rfl rfl ?_
  refine z_aload_n dL_law_232 rfl rfl ?_
  refine z_iload_n dL_law_233 rfl rfl ?_
  refine z_iconst (v := nI 1) dL_law_234 (by decide) ?_
  refine z_iadd dL_law_235 ?_
  refine z_xald hb (e _ (by decide)) dL_law_236 ?_
  refine z_aload_n dL_law_237 rfl rfl ?_
  refine z_iload_n dL_law_238 rfl rfl ?_
  refine z_iconst (v := nI 2) dL_law_239 (by decide) ?_
  refine z_iadd dL_law_240 ?_
  refine z_xald hb (e _ (by decide)) dL_law_241 ?_
  refine z_aload_n dL_law_242 rfl rfl ?_
  refine z_iload_n dL_law_243 rfl rfl ?_
  refine z_iconst (v := nI 3) dL_law_244 (by decide) ?_
  refine z_iadd dL_law_245 ?_
  refine z_xald hb (e _ (by decide)) dL_law_246 ?_
  have hst := hK H T j s S hR
  have hk10 : cK s g = 10 := hst.1 9 g oQL
  have K1 := kc_X11_lie (o := pO a w) hG hst oQL h1 w hw.c
  refine z_V3i (y' := mX11_lie) (r := (RX11, TX11, 4)) (Q' := fun v w' => ∃ s', cM G (pO a w) s' w' ∧ v = (k_X11_lie N g H T s g (G.2.2.2.2 (nI (2 + 7 * j) + nI 1).toNatClampNeg) (G.2.2.2.2 (nI (2 + 7 * j) + nI 2).toNatClampNeg) (G.2.2.2.2 (nI (2 + 7 * j) + nI 3).toNatClampNeg)).1 ∧ s' = (k_X11_lie N g H T s g (G.2.2.2.2 (nI (2 + 7 * j) + nI 1).toNatClampNeg) (G.2.2.2.2 (nI (2 + 7 * j) + nI 2).toNatClampNeg) (G.2.2.2.2 (nI (2 + 7 * j) + nI 3).toNatClampNeg)).2) dL_law_247 lL_26 kX11_lie ⟨by decide, by decide⟩ ((hw.1 g (by rw [hk10]; decide)).trans (congrArg some (cenc_obj (ci := 9) hk10 (by decide)))) rfl rfl (Nat.le_of_ble_eq_true rfl) (zC.weaken K1 (fun r w' ⟨s', g1, v, g2, ⟨g3, g4⟩, _⟩ => ⟨v, g2, s', g1, g3, g4⟩)) (fun v1 w1 hq => ?_)
  obtain ⟨s1, g1, hv1, rfl⟩ := hq
  have hw1 := hw.c' g1
  refine z_aload_n dL_law_250 rfl rfl ?_
  refine z_aload_n dL_law_251 rfl rfl ?_
  refine z_iload_n dL_law_252 rfl rfl ?_
  refine z_iconst (v := nI 1) dL_law_253 (by decide) ?_
  refine z_iadd dL_law_254 ?_
  refine z_xald hb (e _ (by decide)) dL_law_255 ?_
  refine z_aload_n dL_law_256 rfl rfl ?_
  refine z_iload_n dL_law_257 rfl rfl ?_
  refine z_iconst (v := nI 2) dL_law_258 (by decide) ?_
  refine z_iadd dL_law_259 ?_
  refine z_xald hb (e _ (by decide)) dL_law_260 ?_
  refine z_aload_n dL_law_261 rfl rfl ?_
  refine z_iload_n dL_law_262 rfl rfl ?_
  refine z_iconst (v := nI 3) dL_law_263 (by decide) ?_
  refine z_iadd dL_law_264 ?_
  refine z_xald hb (e _ (by decide)) dL_law_265 ?_
  have K2 := rc_X12_lie (E := (a, rP a, w1)) hG h2 w1 hw1.r
  refine z_V3i (y' := mX12_lie) (r := (RX12, TX12, 89)) (Q' := fun v w' => ∃ S', rI G (a, rP a, w1) S' w' ∧ v = (f_lie N S (G.2.2.2.2 (nI (2 + 7 * j) + nI 1).toNatClampNeg) (G.2.2.2.2 (nI (2 + 7 * j) + nI 2).toNatClampNeg) (G.2.2.2.2 (nI (2 + 7 * j) + nI 3).toNatClampNeg)).1 ∧ S' = (f_lie N S (G.2.2.2.2 (nI (2 + 7 * j) + nI 1).toNatClampNeg) (G.2.2.2.2 (nI (2 + 7 * j) + nI 2).toNatClampNeg) (G.2.2.2.2 (nI (2 + 7 * j) + nI 3).toNatClampNeg)).2) dL_law_266 lL_30 kX12_lie ⟨by decide, by decide⟩ hw1.r.1.1 rfl rfl (Nat.le_of_ble_eq_true rfl) (zC.weaken K2 (fun r w' ⟨s', g1, v, g2, g3, g4⟩ => ⟨v, g2, s', g1, g3, g4⟩)) (fun v2 w2 hq => ?_)
  obtain ⟨S2, g2, hv2, rfl⟩ := hq
  have hw2 := hw1.r' g2
  have ev : v1 = v2 := by rw [hv1, hv2]; exact h3
  subst ev
  refine z_icmp_eq (tgt := 1101) dL_law_269 (by decide) (fun _ => kk _ _ _ hw2 h4) (fun c => absurd rfl c)
set_option maxHeartbeats 4000000 in
theorem lw_pass {G : zG} {N g H T a j : Nat} {s : cS} {S : rS} {w : zS} {Rel : Nat → Nat → Nat → cS → rS → Prop} {Q : Option Value → zS → Prop} (hG : zOK G) (hb : G.2.2.2.1.2.2.1 < gN G) (hL : G.2.2.2.1.2.2.2 ≤ 3586) (hj : 2 + 7 * j + 7 ≤ G.2.2.2.1.2.2.2) (hK : pS_kind g Rel) (h : pS_pass N g Rel) (hw : pI G a s S w) (hR : Rel H T j s S) (kk : ∀ s' S' w', pI G a s' S' w' → Rel H T (j + 1) s' S' → zX G dL_law mL_law 1101 [some (.ref G.2.2.2.1.2.2.1), some (.ref g), some (.ref a), some (.int (nI (2 + 7 * j)))] [] w' Q) : zX G dL_law mL_law 274 [some (.ref G.2.2.2.1.2.2.1), some (.ref g), some (.ref a), some (.int (nI (2 + 7 * j)))] [] w Q := by
  obtain ⟨h1, h2, h3, h4⟩ := h H T j s S (G.2.2.2.2 (nI (2 + 7 * j) + nI 1).toNatClampNeg) (G.2.2.2.2 (nI (2 + 7 * j) + nI 2).toNatClampNeg) (G.2.2.2.2 (nI (2 + 7 * j) + nI 3).toNatClampNeg) (by omega) hR
  have e : ∀ k, k < 7 → vp_in (nI (2 + 7 * j) + nI k) G.2.2.2.1.2.2.2 := fun k hk => vx_in (k := 2 + 7 * j + k) (by unfold nI; rw [← Int32.ofNat_add]) (by omega) (by omega)
  refine z_aload_n dL_law_274 rfl rfl ?_
  refine z_aload_n dL_law_275 rfl rfl ?_
  refine z_iload_n dL_law_276 rfl rfl ?_
  refine z_iconst (v := nI 1) dL_law_277 (by decide) ?_
  refine z_iadd dL_law_278 ?_
  refine z_xald hb (e _ (by decide)) dL_law_279 ?_
  refine z_aload_n dL_law_280 rfl rfl ?_
  refine z_iload_n dL_law_281 rfl rfl ?_
  refine z_iconst (v := nI 2) dL_law_282 (by decide) ?_
  refine z_iadd dL_law_283 ?_
  refine z_xald hb (e _ (by decide)) dL_law_284 ?_
  refine z_aload_n dL_law_285 rfl rfl ?_
  refine z_iload_n dL_law_286 rfl rfl ?_
  refine z_iconst (v := nI 3) dL_law_287 (by decide) ?_
  refine z_iadd dL_law_288 ?_
  refine z_xald hb (e _ (by decide)) dL_law_289 ?_
  have hst := hK H T j s S hR
  have hk10 : cK s g = 10 := hst.1 9 g oQL
  have K1 := kc_X11_pass (o := pO a w) hG hst oQL h1 w hw.c
  refine z_V3i (y' := mX11_pass) (r := (RX11, TX11, 4)) (Q' := fun v w' => ∃ s', cM G (pO a w) s' w' ∧ v = (k_X11_pass N g H T s g (G.2.2.2.2 (nI (2 + 7 * j) + nI 1).toNatClampNeg) (G.2.2.2.2 (nI (2 + 7 * j) + nI 2).toNatClampNeg) (G.2.2.2.2 (nI (2 + 7 * j) + nI 3).toNatClampNeg)).1 ∧ s' = (k_X11_pass N g H T s g (G.2.2.2.2 (nI (2 + 7 * j) + nI 1).toNatClampNeg) (G.2.2.2.2 (nI (2 + 7 * j) + nI 2).toNatClampNeg) (G.2.2.2.2 (nI (2 + 7 * j) + nI 3).toNatClampNeg)).2) dL_law_290 lL_31 kX11_pass ⟨by decide, by decide⟩ ((hw.1 g (by rw [hk10]; decide)).trans (congrArg some (cenc_obj (ci := 9) hk10 (by decide)))) rfl rfl (Nat.le_of_ble_eq_true rfl) (zC.weaken K1 (fun r w' ⟨s', g1, v, g2, ⟨g3, g4⟩, _⟩ => ⟨v, g2, s', g1, g3, g4⟩)) (fun v1 w1 hq => ?_)
  obtain ⟨s1, g1, hv1, rfl⟩ := hq
  have hw1 := hw.c' g1
  refine z_aload_n dL_law_293 rfl rfl ?_
  refine z_aload_n dL_law_294 rfl rfl ?_
  refine z_iload_n dL_law_295 rfl rfl ?_
  refine z_iconst (v := nI 1) dL_law_296 (by decide) ?_
  refine z_iadd dL_law_297 ?_
  refine z_xald hb (e _ (by decide)) dL_law_298 ?_
  refine z_aload_n dL_law_299 rfl rfl ?_
  refine z_iload_n dL_law_300 rfl rfl ?_
  refine z_iconst (v := nI 2) dL_law_301 (by decide) ?_
  refine z_iadd dL_law_302 ?_
  refine z_xald hb (e _ (by decide)) dL_law_303 ?_
  refine z_aload_n dL_law_304 rfl rfl ?_
  refine z_iload_n dL_law_305 rfl rfl ?_
  refine z_iconst (v := nI 3) dL_law_306 (by decide) ?_
  refine z_iadd dL_law_307 ?_
  refine z_xald hb (e _ (by decide)) dL_law_308 ?_
  have K2 := rc_X12_pass (E := (a, rP a, w1)) hG h2 w1 hw1.r
  refine z_V3i (y' := mX12_pass) (r := (RX12, TX12, 89)) (Q' := fun v w' => ∃ S', rI G (a, rP a, w1) S' w' ∧ v = (f_pass N S (G.2.2.2.2 (nI (2 + 7 * j) + nI 1).toNatClampNeg) (G.2.2.2.2 (nI (2 + 7 * j) + nI 2).toNatClampNeg) (G.2.2.2.2 (nI (2 + 7 * j) + nI 3).toNatClampNeg)).1 ∧ S' = (f_pass N S (G.2.2.2.2 (nI (2 + 7 * j) + nI 1).toNatClampNeg) (G.2.2.2.2 (nI (2 + 7 * j) + nI 2).toNatClampNeg) (G.2.2.2.2 (nI (2 + 7 * j) + nI 3).toNatClampNeg)).2) dL_law_309 lL_34 kX12_pass ⟨by decide, by decide⟩ hw1.r.1.1 rfl rfl (Nat.le_of_ble_eq_true rfl) (zC.weaken K2 (fun r w' ⟨s', g1, v, g2, g3, g4⟩ => ⟨v, g2, s', g1, g3, g4⟩)) (fun v2 w2 hq => ?_)
  obtain ⟨S2, g2, hv2, rfl⟩ := hq
  have hw2 := hw1.r' g2
  have ev : v1 = v2 := by rw [hv1, hv2]; exact h3
  subst ev
  refine z_icmp_eq (tgt := 1101) dL_law_312 (by decide) (fun _ => kk _ _ _ hw2 h4) (fun c => absurd rfl c)
set_option maxHeartbeats 4000000 in
theorem lw_seal {G : zG} {N g H T a j : Nat} {s : cS} {S : rS} {w : zS} {Rel : Nat → Nat → Nat → cS → rS → Prop} {Q : Option Value → zS → Prop} (hG : zOK G) (hb : G.2.2.2.1.2.2.1 < gN G) (hL : G.2.2.2.1.2.2.2 ≤ 3586) (hj : 2 + 7 * j + 7 ≤ G.2.2.2.1.2.2.2) (hK : pS_kind g Rel) (h : pS_seal N g Rel) (hw : pI G a s S w) (hR : Rel H T j s S) (kk : ∀ s' S' w', pI G a s' S' w' → Rel H T (j + 1) s' S' → zX G dL_law mL_law 1101 [some (.ref G.2.2.2.1.2.2.1), some (.ref g), some (.ref a), some (.int (nI (2 + 7 * j)))] [] w' Q) : zX G dL_law mL_law 317 [some (.ref G.2.2.2.1.2.2.1), some (.ref g), some (.ref a), some (.int (nI (2 + 7 * j)))] [] w Q := by
  obtain ⟨h1, h2, h3, h4⟩ := h H T j s S (G.2.2.2.2 (nI (2 + 7 * j) + nI 1).toNatClampNeg) (G.2.2.2.2 (nI (2 + 7 * j) + nI 2).toNatClampNeg) (G.2.2.2.2 (nI (2 + 7 * j) + nI 3).toNatClampNeg) (by omega) hR
  have e : ∀ k, k < 7 → vp_in (nI (2 + 7 * j) + nI k) G.2.2.2.1.2.2.2 := fun k hk => vx_in (k := 2 + 7 * j + k) (by unfold nI; rw [← Int32.ofNat_add]) (by omega) (by omega)
  refine z_aload_n dL_law_317 rfl rfl ?_
  refine z_aload_n dL_law_318 rfl rfl ?_
  refine z_iload_n dL_law_319 rfl rfl ?_
  refine z_iconst (v := nI 1) dL_law_320 (by decide) ?_
  refine z_iadd dL_law_321 ?_
  refine z_xald hb (e _ (by decide)) dL_law_322 ?_
  refine z_aload_n dL_law_323 rfl rfl ?_
  refine z_iload_n dL_law_324 rfl rfl ?_
  refine z_iconst (v := nI 2) dL_law_325 (by decide) ?_
  refine z_iadd dL_law_326 ?_
  refine z_xald hb (e _ (by decide)) dL_law_327 ?_
  refine z_aload_n dL_law_328 rfl rfl ?_
  refine z_iload_n dL_law_329 rfl rfl ?_
  refine z_iconst (v := nI 3) dL_law_330 (by decide) ?_
  refine z_iadd dL_law_331 ?_
  refine z_xald hb (e _ (by decide)) dL_law_332 ?_
  have hst := hK H T j s S hR
  have hk10 : cK s g = 10 := hst.1 9 g oQL
  have K1 := kc_X11_seal (o := pO a w) hG hst oQL h1 w hw.c
  refine z_V3i (y' := mX11_seal) (r := (RX11, TX11, 4)) (Q' := fun v w' => ∃ s', cM G (pO a w) s' w' ∧ v = (k_X11_seal N g H T s g (G.2.2.2.2 (nI (2 + 7 * j) + nI 1).toNatClampNeg) (G.2.2.2.2 (nI (2 + 7 * j) + nI 2).toNatClampNeg) (G.2.2.2.2 (nI (2 + 7 * j) + nI 3).toNatClampNeg)).1 ∧ s' = (k_X11_seal N g H T s g (G.2.2.2.2 (nI (2 + 7 * j) + nI 1).toNatClampNeg) (G.2.2.2.2 (nI (2 + 7 * j) + nI 2).toNatClampNeg) (G.2.2.2.2 (nI (2 + 7 * j) + nI 3).toNatClampNeg)).2) dL_law_333 lL_35 kX11_seal ⟨by decide, by decide⟩ ((hw.1 g (by rw [hk10]; decide)).trans (congrArg some (cenc_obj (ci := 9) hk10 (by decide)))) rfl rfl (Nat.le_of_ble_eq_true rfl) (zC.weaken K1 (fun r w' ⟨s', g1, v, g2, ⟨g3, g4⟩, _⟩ => ⟨v, g2, s', g1, g3, g4⟩)) (fun v1 w1 hq => ?_)
  obtain ⟨s1, g1, hv1, rfl⟩ := hq
  have hw1 := hw.c' g1
  refine z_aload_n dL_law_336 rfl rfl ?_
  refine z_aload_n dL_law_337 rfl rfl ?_
  refine z_iload_n dL_law_338 rfl rfl ?_
  refine z_iconst (v := nI 1) dL_law_339 (by decide) ?_
  refine z_iadd dL_law_340 ?_
  refine z_xald hb (e _ (by decide)) dL_law_341 ?_
  refine z_aload_n dL_law_342 rfl rfl ?_
  refine z_iload_n dL_law_343 rfl rfl ?_
  refine z_iconst (v := nI 2) dL_law_344 (by decide) ?_
  refine z_iadd dL_law_345 ?_
  refine z_xald hb (e _ (by decide)) dL_law_346 ?_
  refine z_aload_n dL_law_347 rfl rfl ?_
  refine z_iload_n dL_law_348 rfl rfl ?_
  refine z_iconst (v := nI 3) dL_law_349 (by decide) ?_
  refine z_iadd dL_law_350 ?_
  refine z_xald hb (e _ (by decide)) dL_law_351 ?_
  have K2 := rc_X12_seal (E := (a, rP a, w1)) hG h2 w1 hw1.r
  refine z_V3i (y' := mX12_seal) (r := (RX12, TX12, 89)) (Q' := fun v w' => ∃ S', rI G (a, rP a, w1) S' w' ∧ v = (f_seal N S (G.2.2.2.2 (nI (2 + 7 * j) + nI 1).toNatClampNeg) (G.2.2.2.2 (nI (2 + 7 * j) + nI 2).toNatClampNeg) (G.2.2.2.2 (nI (2 + 7 * j) + nI 3).toNatClampNeg)).1 ∧ S' = (f_seal N S (G.2.2.2.2 (nI (2 + 7 * j) + nI 1).toNatClampNeg) (G.2.2.2.2 (nI (2 + 7 * j) + nI 2).toNatClampNeg) (G.2.2.2.2 (nI (2 + 7 * j) + nI 3).toNatClampNeg)).2) dL_law_352 lL_39 kX12_seal ⟨by decide, by decide⟩ hw1.r.1.1 rfl rfl (Nat.le_of_ble_eq_true rfl) (zC.weaken K2 (fun r w' ⟨s', g1, v, g2, g3, g4⟩ => ⟨v, g2, s', g1, g3, g4⟩)) (fun v2 w2 hq => ?_)
  obtain ⟨S2, g2, hv2, rfl⟩ := hq
  have hw2 := hw1.r' g2
  have ev : v1 = v2 := by rw [hv1, hv2]; exact h3
  subst ev
  refine z_icmp_eq (tgt := 1101) dL_law_355 (by decide) (fun _ => kk _ _ _ hw2 h4) (fun c => absurd rfl c)
set_option maxHeartbeats 4000000 in
theorem lw_stamp {G : zG} {N g H T a j : Nat} {s : cS} {S : rS} {w : zS} {Rel : Nat → Nat → Nat → cS → rS → Prop} {Q : Option Value → zS → Prop} (hG : zOK G) (hb : G.2.2.2.1.2.2.1 < gN G) (hL : G.2.2.2.1.2.2.2 ≤ 3586) (hj : 2 + 7 * j + 7 ≤ G.2.2.2.1.2.2.2) (hK : pS_kind g Rel) (h : pS_stamp N g Rel) (hw : pI G a s S w) (hR : Rel H T j s S) (kk : ∀ s' S' w', pI G a s' S' w' → Rel H T (j + 1) s' S' → zX G dL_law mL_law 1101 [some (.ref G.2.2.2.1.2.2.1), some (.ref g), some (.ref a), some (.int (nI (2 + 7 * j)))] [] w' Q) : zX G dL_law mL_law 360 [some (.ref G.2.2.2.1.2.2.1), some (.ref g), some (.ref a), some (.int (nI (2 + 7 * j)))] [] w Q := by
  obtain ⟨h1, h2, h3, h4⟩ := h H T j s S (G.2.2.2.2 (nI (2 + 7 * j) + nI 1).toNatClampNeg) (G.2.2.2.2 (nI (2 + 7 * j) + nI 2).toNatClampNeg) (G.2.2.2.2 (nI (2 + 7 * j) + nI 3).toNatClampNeg) (by omega) hR
  have e : ∀ k, k < 7 → vp_in (nI (2 + 7 * j) + nI k) G.2.2.2.1.2.2.2 := fun k hk => vx_in (k := 2 + 7 * j + k) (by unfold nI; rw [← Int32.ofNat_add]) (by omega) (by omega)
  refine z_aload_n dL_law_360 rfl rfl ?_
  refine z_aload_n dL_law_361 rfl rfl ?_
  refine z_iload_n dL_law_362 rfl rfl ?_
  refine z_iconst (v := nI 1) dL_law_363 (by decide) ?_
  refine z_iadd dL_law_364 ?_
  refine z_xald hb (e _ (by decide)) dL_law_365 ?_
  refine z_aload_n dL_law_366 rfl rfl ?_
  refine z_iload_n dL_law_367 rfl rfl ?_
  refine z_iconst (v := nI 2) dL_law_368 (by decide) ?_
  refine z_iadd dL_law_369 ?_
  refine z_xald hb (e _ (by decide)) dL_law_370 ?_
  refine z_aload_n dL_law_371 rfl rfl ?_
  refine z_iload_n dL_law_372 rfl rfl ?_
  refine z_iconst (v := nI 3) dL_law_373 (by decide) ?_
  refine z_iadd dL_law_374 ?_
  refine z_xald hb (e _ (by decide)) dL_law_375 ?_
  have hst := hK H T j s S hR
  have hk10 : cK s g = 10 := hst.1 9 g oQL
  have K1 := kc_X11_stamp (o := pO a w) hG hst oQL h1 w hw.c
  refine z_V3i (y' := mX11_stamp) (r := (RX11, TX11, 4)) (Q' := fun v w' => ∃ s', cM G (pO a w) s' w' ∧ v = (k_X11_stamp N g H T s g (G.2.2.2.2 (nI (2 + 7 * j) + nI 1).toNatClampNeg) (G.2.2.2.2 (nI (2 + 7 * j) + nI 2).toNatClampNeg) (G.2.2.2.2 (nI (2 + 7 * j) + nI 3).toNatClampNeg)).1 ∧ s' = (k_X11_stamp N g H T s g (G.2.2.2.2 (nI (2 + 7 * j) + nI 1).toNatClampNeg) (G.2.2.2.2 (nI (2 + 7 * j) + nI 2).toNatClampNeg) (G.2.2.2.2 (nI (2 + 7 * j) + nI 3).toNatClampNeg)).2) dL_law_376 lL_40 kX11_stamp ⟨by decide, by decide⟩ ((hw.1 g (by rw [hk10]; decide)).trans (congrArg some (cenc_obj (ci := 9) hk10 (by decide)))) rfl rfl (Nat.le_of_ble_eq_true rfl) (zC.weaken K1 (fun r w' ⟨s', g1, v, g2, ⟨g3, g4⟩, _⟩ => ⟨v, g2, s', g1, g3, g4⟩)) (fun v1 w1 hq => ?_)
  obtain ⟨s1, g1, hv1, rfl⟩ := hq
  have hw1 := hw.c' g1
  refine z_aload_n dL_law_379 rfl rfl ?_
  refine z_aload_n dL_law_380 rfl rfl ?_
  refine z_iload_n dL_law_381 rfl rfl ?_
  refine z_iconst (v := nI 1) dL_law_382 (by decide) ?_
  refine z_iadd dL_law_383 ?_
  refine z_xald hb (e _ (by decide)) dL_law_384 ?_
  refine z_aload_n dL_law_385 rfl rfl ?_
  refine z_iload_n dL_law_386 rfl rfl ?_
  refine z_iconst (v := nI 2) dL_law_387 (by decide) ?_
  refine z_iadd dL_law_388 ?_
  refine z_xald hb (e _ (by decide)) dL_law_389 ?_
  refine z_aload_n dL_law_390 rfl rfl ?_
  refine z_iload_n dL_law_391 rfl rfl ?_
  refine z_iconst (v := nI 3) dL_law_392 (by decide) ?_
  refine z_iadd dL_law_393 ?_
  refine z_xald hb (e _ (by decide)) dL_law_394 ?_
  have K2 := rc_X12_stamp (E := (a, rP a, w1)) hG h2 w1 hw1.r
  refine z_V3i (y' := mX12_stamp) (r := (RX12, TX12, 89)) (Q' := fun v w' => ∃ S', rI G (a, rP a, w1) S' w' ∧ v = (f_stamp N S (G.2.2.2.2 (nI (2 + 7 * j) + nI 1).toNatClampNeg) (G.2.2.2.2 (nI (2 + 7 * j) + nI 2).toNatClampNeg) (G.2.2.2.2 (nI (2 + 7 * j) + nI 3).toNatClampNeg)).1 ∧ S' = (f_stamp N S (G.2.2.2.2 (nI (2 + 7 * j) + nI 1).toNatClampNeg) (G.2.2.2.2 (nI (2 + 7 * j) + nI 2).toNatClampNeg) (G.2.2.2.2 (nI (2 + 7 * j) + nI 3).toNatClampNeg)).2) dL_law_395 lL_43 kX12_stamp ⟨by decide, by decide⟩ hw1.r.1.1 rfl rfl (Nat.le_of_ble_eq_true rfl) (zC.weaken K2 (fun r w' ⟨s', g1, v, g2, g3, g4⟩ => ⟨v, g2, s', g1, g3, g4⟩)) (fun v2 w2 hq => ?_)
  obtain ⟨S2, g2, hv2, rfl⟩ := hq
  have hw2 := hw1.r' g2
  have ev : v1 = v2 := by rw [hv1, hv2]; exact h3
  subst ev
  refine z_icmp_eq (tgt := 1101) dL_law_398 (by decide) (fun _ => kk _ _ _ hw2 h4) (fun c => absurd rfl c)
set_option maxHeartbeats 4000000 in
theorem lw_hash {G : zG} {N g H T a j : Nat} {s : cS} {S : rS} {w : zS} {Rel : Nat → Nat → Nat → cS → rS → Prop} {Q : Option Value → zS → Prop} (hG : zOK G) (hb : G.2.2.2.1.2.2.1 < gN G) (hL : G.2.2.2.1.2.2.2 ≤ 3586) (hj : 2 + 7 * j + 7 ≤ G.2.2.2.1.2.2.2) (hK : pS_kind g Rel) (h : pS_hash N g Rel) (hw : pI G a s S w) (hR : Rel H T j s S) (kk : ∀ s' S' w', pI G a s' S' w' → Rel H T (j + 1) s' S' → zX G dL_law mL_law 1101 [some (.ref G.2.2.2.1.2.2.1), some (.ref g), some (.ref a), some (.int (nI (2 + 7 * j)))] [] w' Q) : zX G dL_law mL_law 403 [some (.ref G.2.2.2.1.2.2.1), some (.ref g), some (.ref a), some (.int (nI (2 + 7 * j)))] [] w Q := by
  obtain ⟨h1, h2, h3, h4⟩ := h H T j s S (G.2.2.2.2 (nI (2 + 7 * j) + nI 1).toNatClampNeg) (G.2.2.2.2 (nI (2 + 7 * j) + nI 2).toNatClampNeg) (by omega) hR
  have e : ∀ k, k < 7 → vp_in (nI (2 + 7 * j) + nI k) G.2.2.2.1.2.2.2 := fun k hk => vx_in (k := 2 + 7 * j + k) (by unfold nI; rw [← Int32.ofNat_add]) (by omega) (by omega)
  refine z_aload_n dL_law_403 rfl rfl ?_
  refine z_aload_n dL_law_404 rfl rfl ?_
  refine z_iload_n dL_law_405 rfl rfl ?_
  refine z_iconst (v := nI 1) dL_law_406 (by decide) ?_
  refine z_iadd dL_law_407 ?_
  refine z_xald hb (e _ (by decide)) dL_law_408 ?_
  refine z_aload_n dL_law_409 rfl rfl ?_
  refine z_iload_n dL_law_410 rfl rfl ?_
  refine z_iconst (v := nI 2) dL_law_411 (by decide) ?_
  refine z_iadd dL_law_412 ?_
  refine z_xald hb (e _ (by decide)) dL_law_413 ?_
  have hst := hK H T j s S hR
  have hk10 : cK s g = 10 := hst.1 9 g oQL
  have K1 := kc_X11_hash (o := pO a w) hG hst oQL h1 w hw.c
  refine z_V2l (y' := mX11_hash) (r := (RX11, TX11, 4)) (Q' := fun v w' => ∃ s', cM G (pO a w) s' w' ∧ v = (k_X11_hash N g H T s g (G.2.2.2.2 (nI (2 + 7 * j) + nI 1).toNatClampNeg) (G.2.2.2.2 (nI (2 + 7 * j) + nI 2).toNatClampNeg)).1 ∧ s' = (k_X11_hash N g H T s g (G.2.2.2.2 (nI (2 + 7 * j) + nI 1).toNatClampNeg) (G.2.2.2.2 (nI (2 + 7 * j) + nI 2).toNatClampNeg)).2) dL_law_414 lL_44 kX11_hash ⟨by decide, by decide⟩ ((hw.1 g (by rw [hk10]; decide)).trans (congrArg some (cenc_obj (ci := 9) hk10 (by decide)))) rfl rfl (Nat.le_of_ble_eq_true rfl) (zC.weaken K1 (fun r w' ⟨s', g1, v, g2, ⟨g3, g4⟩, _⟩ => ⟨v, g2, s', g1, g3, g4⟩)) (fun v1 w1 hq => ?_)
  obtain ⟨s1, g1, hv1, rfl⟩ := hq
  have hw1 := hw.c' g1
  refine z_aload_n dL_law_417 rfl rfl ?_
  refine z_aload_n dL_law_418 rfl rfl ?_
  refine z_iload_n dL_law_419 rfl rfl ?_
  refine z_iconst (v := nI 1) dL_law_420 (by decide) ?_
  refine z_iadd dL_law_421 ?_
  refine z_xald hb (e _ (by decide)) dL_law_422 ?_
  refine z_aload_n dL_law_423 rfl rfl ?_
  refine z_iload_n dL_law_424 rfl rfl ?_
  refine z_iconst (v := nI 2) dL_law_425 (by decide) ?_
  refine z_iadd dL_law_426 ?_
  refine z_xald hb (e _ (by decide)) dL_law_427 ?_
  have K2 := rc_X12_hash (E := (a, rP a, w1)) hG h2 w1 hw1.r
  refine z_V2l (y' := mX12_hash) (r := (RX12, TX12, 89)) (Q' := fun v w' => ∃ S', rI G (a, rP a, w1) S' w' ∧ v = (f_hash N S (G.2.2.2.2 (nI (2 + 7 * j) + nI 1).toNatClampNeg) (G.2.2.2.2 (nI (2 + 7 * j) + nI 2).toNatClampNeg)).1 ∧ S' = (f_hash N S (G.2.2.2.2 (nI (2 + 7 * j) + nI 1).toNatClampNeg) (G.2.2.2.2 (nI (2 + 7 * j) + nI 2).toNatClampNeg)).2) dL_law_428 lL_48 kX12_hash ⟨by decide, by decide⟩ hw1.r.1.1 rfl rfl (Nat.le_of_ble_eq_true rfl) (zC.weaken K2 (fun r w' ⟨s', g1, v, g2, g3, g4⟩ => ⟨v, g2, s', g1, g3, g4⟩)) (fun v2 w2 hq => ?_)
  obtain ⟨S2, g2, hv2, rfl⟩ := hq
  have hw2 := hw1.r' g2
  have ev : v1 = v2 := by rw [hv1, hv2]; exact h3
  subst ev
  refine z_lcmp dL_law_431 ?_
  have ez : lg_cmp v1 v1 = 0 := by simp [lg_cmp]
  rw [ez]
  refine z_if_eq (tgt := 1101) dL_law_432 (by decide) (fun _ => kk _ _ _ hw2 h4) (fun c => absurd rfl c)
set_option maxHeartbeats 4000000 in
theorem lw_submit {G : zG} {N g H T a j : Nat} {s : cS} {S : rS} {w : zS} {Rel : Nat → Nat → Nat → cS → rS → Prop} {Q : Option Value → zS → Prop} (hG : zOK G) (hb : G.2.2.2.1.2.2.1 < gN G) (hL : G.2.2.2.1.2.2.2 ≤ 3586) (hj : 2 + 7 * j + 7 ≤ G.2.2.2.1.2.2.2) (hK : pS_kind g Rel) (h : pS_submit N g Rel) (hw : pI G a s S w) (hR : Rel H T j s S) (kk : ∀ s' S' w', pI G a s' S' w' → Rel H T (j + 1) s' S' → zX G dL_law mL_law 1101 [some (.ref G.2.2.2.1.2.2.1), some (.ref g), some (.ref a), some (.int (nI (2 + 7 * j)))] [] w' Q) : zX G dL_law mL_law 437 [some (.ref G.2.2.2.1.2.2.1), some (.ref g), some (.ref a), some (.int (nI (2 + 7 * j)))] [] w Q := by
  obtain ⟨h1, h2, h3, h4⟩ := h H T j s S (G.2.2.2.2 (nI (2 + 7 * j) + nI 1).toNatClampNeg) (G.2.2.2.2 (nI (2 + 7 * j) + nI 2).toNatClampNeg) (G.2.2.2.2 (nI (2 + 7 * j) + nI 3).toNatClampNeg) (G.2.2.2.2 (nI (2 + 7 * j) + nI 4).toNatClampNeg) (G.2.2.2.2 (nI (2 + 7 * j) + nI 5).toNatClampNeg) (G.2.2.2.2 (nI (2 + 7 * j) + nI 6).toNatClampNeg) (by omega) hR
  have e : ∀ k, k < 7 → vp_in (nI (2 + 7 * j) + nI k) G.2.2.2.1.2.2.2 := fun k hk => vx_in (k := 2 + 7 * j + k) (by unfold nI; rw [← Int32.ofNat_add]) (by omega) (by omega)
  refine z_aload_n dL_law_437 rfl rfl ?_
  refine z_aload_n dL_law_438 rfl rfl ?_
  refine z_iload_n dL_law_439 rfl rfl ?_
  refine z_iconst (v := nI 1) dL_law_440 (by decide) ?_
  refine z_iadd dL_law_441 ?_
  refine z_xald hb (e _ (by decide)) dL_law_442 ?_
  refine z_aload_n dL_law_443 rfl rfl ?_
  refine z_iload_n dL_law_444 rfl rfl ?_
  refine z_iconst (v := nI 2) dL_law_445 (by decide) ?_
  refine z_iadd dL_law_446 ?_
  refine z_xald hb (e _ (by decide)) dL_law_447 ?_
  refine z_aload_n dL_law_448 rfl rfl ?_
  refine z_iload_n dL_law_449 rfl rfl ?_
  refine z_iconst (v := nI 3) dL_law_450 (by decide) ?_
  refine z_iadd dL_law_451 ?_
  refine z_xald hb (e _ (by decide)) dL_law_452 ?_
  refine z_aload_n dL_law_453 rfl rfl ?_
  refine z_iload_n dL_law_454 rfl rfl ?_
  refine z_iconst (v := nI 4) dL_law_455 (by decide) ?_
  refine z_iadd dL_law_456 ?_
  refine z_xald hb (e _ (by decide)) dL_law_457 ?_
  refine z_aload_n dL_law_458 rfl rfl ?_
  refine z_iload_n dL_law_459 rfl rfl ?_
  refine z_iconst (v := nI 5) dL_law_460 (by decide) ?_
  refine z_iadd dL_law_461 ?_
  refine z_xald hb (e _ (by decide)) dL_law_462 ?_
  refine z_aload_n dL_law_463 rfl rfl ?_
  refine z_iload_n dL_law_464 rfl rfl ?_
  refine z_bipush (v := nI 6) dL_law_465 (by decide) ?_
  refine z_iadd dL_law_467 ?_
  refine z_xald hb (e _ (by decide)) dL_law_468 ?_
  have hst := hK H T j s S hR
  have hk10 : cK s g = 10 := hst.1 9 g oQL
  have K1 := kc_X11_submit (o := pO a w) hG hst oQL h1 w hw.c
  refine z_V6i (y' := mX11_submit) (r := (RX11, TX11, 4)) (Q' := fun v w' => ∃ s', cM G (pO a w) s' w' ∧ v = (k_X11_submit N g H T s g (G.2.2.2.2 (nI (2 + 7 * j) + nI 1).toNatClampNeg) (G.2.2.2.2 (nI (2 + 7 * j) + nI 2).toNatClampNeg) (G.2.2.2.2 (nI (2 + 7 * j) + nI 3).toNatClampNeg) (G.2.2.2.2 (nI (2 + 7 * j) + nI 4).toNatClampNeg) (G.2.2.2.2 (nI (2 + 7 * j) + nI 5).toNatClampNeg) (G.2.2.2.2 (nI (2 + 7 * j) + nI 6).toNatClampNeg)).1 ∧ s' = (k_X11_submit N g H T s g (G.2.2.2.2 (nI (2 + 7 * j) + nI 1).toNatClampNeg) (G.2.2.2.2 (nI (2 + 7 * j) + nI 2).toNatClampNeg) (G.2.2.2.2 (nI (2 + 7 * j) + nI 3).toNatClampNeg) (G.2.2.2.2 (nI (2 + 7 * j) + nI 4).toNatClampNeg) (G.2.2.2.2 (nI (2 + 7 * j) + nI 5).toNatClampNeg) (G.2.2.2.2 (nI (2 + 7 * j) + nI 6).toNatClampNeg)).2) dL_law_469 lL_49 kX11_submit ⟨by decide, by decide⟩ ((hw.1 g (by rw [hk10]; decide)).trans (congrArg some (cenc_obj (ci := 9) hk10 (by decide)))) rfl rfl (Nat.le_of_ble_eq_true rfl) (zC.weaken K1 (fun r w' ⟨s', g1, v, g2, ⟨g3, g4⟩, _⟩ => ⟨v, g2, s', g1, g3, g4⟩)) (fun v1 w1 hq => ?_)
  obtain ⟨s1, g1, hv1, rfl⟩ := hq
  have hw1 := hw.c' g1
  refine z_aload_n dL_law_472 rfl rfl ?_
  refine z_aload_n dL_law_473 rfl rfl ?_
  refine z_iload_n dL_law_474 rfl rfl ?_
  refine z_iconst (v := nI 1) dL_law_475 (by decide) ?_
  refine z_iadd dL_law_476 ?_
  refine z_xald hb (e _ (by decide)) dL_law_477 ?_
  refine z_aload_n dL_law_478 rfl rfl ?_
  refine z_iload_n dL_law_479 rfl rfl ?_
  refine z_iconst (v := nI 2) dL_law_480 (by decide) ?_
  refine z_iadd dL_law_481 ?_
  refine z_xald hb (e _ (by decide)) dL_law_482 ?_
  refine z_aload_n dL_law_483 rfl rfl ?_
  refine z_iload_n dL_law_484 rfl rfl ?_
  refine z_iconst (v := nI 3) dL_law_485 (by decide) ?_
  refine z_iadd dL_law_486 ?_
  refine z_xald hb (e _ (by decide)) dL_law_487 ?_
  refine z_aload_n dL_law_488 rfl rfl ?_
  refine z_iload_n dL_law_489 rfl rfl ?_
  refine z_iconst (v := nI 4) dL_law_490 (by decide) ?_
  refine z_iadd dL_law_491 ?_
  refine z_xald hb (e _ (by decide)) dL_law_492 ?_
  refine z_aload_n dL_law_493 rfl rfl ?_
  refine z_iload_n dL_law_494 rfl rfl ?_
  refine z_iconst (v := nI 5) dL_law_495 (by decide) ?_
  refine z_iadd dL_law_496 ?_
  refine z_xald hb (e _ (by decide)) dL_law_497 ?_
  refine z_aload_n dL_law_498 rfl rfl ?_
  refine z_iload_n dL_law_499 rfl rfl ?_
  refine z_bipush (v := nI 6) dL_law_500 (by decide) ?_
  refine z_iadd dL_law_502 ?_
  refine z_xald hb (e _ (by decide)) dL_law_503 ?_
  have K2 := rc_X12_submit (E := (a, rP a, w1)) hG h2 w1 hw1.r
  refine z_V6i (y' := mX12_submit) (r := (RX12, TX12, 89)) (Q' := fun v w' => ∃ S', rI G (a, rP a, w1) S' w' ∧ v = (f_submit N S (G.2.2.2.2 (nI (2 + 7 * j) + nI 1).toNatClampNeg) (G.2.2.2.2 (nI (2 + 7 * j) + nI 2).toNatClampNeg) (G.2.2.2.2 (nI (2 + 7 * j) + nI 3).toNatClampNeg) (G.2.2.2.2 (nI (2 + 7 * j) + nI 4).toNatClampNeg) (G.2.2.2.2 (nI (2 + 7 * j) + nI 5).toNatClampNeg) (G.2.2.2.2 (nI (2 + 7 * j) + nI 6).toNatClampNeg)).1 ∧ S' = (f_submit N S (G.2.2.2.2 (nI (2 + 7 * j) + nI 1).toNatClampNeg) (G.2.2.2.2 (nI (2 + 7 * j) + nI 2).toNatClampNeg) (G.2.2.2.2 (nI (2 + 7 * j) + nI 3).toNatClampNeg) (G.2.2.2.2 (nI (2 + 7 * j) + nI 4).toNatClampNeg) (G.2.2.2.2 (nI (2 + 7 * j) + nI 5).toNatClampNeg) (G.2.2.2.2 (nI (2 + 7 * j) + nI 6).toNatClampNeg)).2) dL_law_504 lL_53 kX12_submit ⟨by decide, by decide⟩ hw1.r.1.1 rfl rfl (Nat.le_of_ble_eq_true rfl) (zC.weaken K2 (fun r w' ⟨s', g1, v, g2, g3, g4⟩ => ⟨v, g2, s', g1, g3, g4⟩)) (fun v2 w2 hq => ?_)
  obtain ⟨S2, g2, hv2, rfl⟩ := hq
  have hw2 := hw1.r' g2
  have ev : v1 = v2 := by rw [hv1, hv2]; exact h3
  subst ev
  refine z_icmp_eq (tgt := 1101) dL_law_507 (by decide) (fun _ => kk _ _ _ hw2 h4) (fun c => absurd rfl c)
set_option maxHeartbeats 4000000 in
theorem lw_deliver {G : zG} {N g H T a j : Nat} {s : cS} {S : rS} {w : zS} {Rel : Nat → Nat → Nat → cS → rS → Prop} {Q : Option Value → zS → Prop} (hG : zOK G) (hb : G.2.2.2.1.2.2.1 < gN G) (hL : G.2.2.2.1.2.2.2 ≤ 3586) (hj : 2 + 7 * j + 7 ≤ G.2.2.2.1.2.2.2) (hK : pS_kind g Rel) (h : pS_deliver N g Rel) (hw : pI G a s S w) (hR : Rel H T j s S) (kk : ∀ s' S' w', pI G a s' S' w' → Rel H T (j + 1) s' S' → zX G dL_law mL_law 1101 [some (.ref G.2.2.2.1.2.2.1), some (.ref g), some (.ref a), some (.int (nI (2 + 7 * j)))] [] w' Q) : zX G dL_law mL_law 512 [some (.ref G.2.2.2.1.2.2.1), some (.ref g), some (.ref a), some (.int (nI (2 + 7 * j)))] [] w Q := by
  obtain ⟨h1, h2, h3, h4⟩ := h H T j s S (G.2.2.2.2 (nI (2 + 7 * j) + nI 1).toNatClampNeg) (by omega) hR
  have e : ∀ k, k < 7 → vp_in (nI (2 + 7 * j) + nI k) G.2.2.2.1.2.2.2 := fun k hk => vx_in (k := 2 + 7 * j + k) (by unfold nI; rw [← Int32.ofNat_add]) (by omega) (by omega)
  refine z_aload_n dL_law_512 rfl rfl ?_
  refine z_aload_n dL_law_513 rfl rfl ?_
  refine z_iload_n dL_law_514 rfl rfl ?_
  refine z_iconst (v := nI 1) dL_law_515 (by decide) ?_
  refine z_iadd dL_law_516 ?_
  refine z_xald hb (e _ (by decide)) dL_law_517 ?_
  have hst := hK H T j s S hR
  have hk10 : cK s g = 10 := hst.1 9 g oQL
  have K1 := kc_X11_deliver (o := pO a w) hG hst oQL h1 w hw.c
  refine z_V1i (y' := mX11_deliver) (r := (RX11, TX11, 4)) (Q' := fun v w' => ∃ s', cM G (pO a w) s' w' ∧ v = (k_X11_deliver N g H T s g (G.2.2.2.2 (nI (2 + 7 * j) + nI 1).toNatClampNeg)).1 ∧ s' = (k_X11_deliver N g H T s g (G.2.2.2.2 (nI (2 + 7 * j) + nI 1).toNatClampNeg)).2) dL_law_518 lL_54 kX11_deliver ⟨by decide, by decide⟩ ((hw.1 g (by rw [hk10]; decide)).trans (congrArg some (cenc_obj (ci := 9) hk10 (by decide)))) rfl rfl (Nat.le_of_ble_eq_true rfl) (zC.weaken K1 (fun r w' ⟨s', g1, v, g2, ⟨g3, g4⟩, _⟩ => ⟨v, g2, s', g1, g3, g4⟩)) (fun v1 w1 hq => ?_)
  obtain ⟨s1, g1, hv1, rfl⟩ := hq
  have hw1 := hw.c' g1
  refine z_aload_n dL_law_521 rfl rfl ?_
  refine z_aload_n dL_law_522 rfl rfl ?_
  refine z_iload_n dL_law_523 rfl rfl ?_
  refine z_iconst (v := nI 1) dL_law_524 (by decide) ?_
  refine z_iadd dL_law_525 ?_
  refine z_xald hb (e _ (by decide)) dL_law_526 ?_
  have K2 := rc_X12_deliver (E := (a, rP a, w1)) hG h2 w1 hw1.r
  refine z_V1i (y' := mX12_deliver) (r := (RX12, TX12, 89)) (Q' := fun v w' => ∃ S', rI G (a, rP a, w1) S' w' ∧ v = (f_deliver N S (G.2.2.2.2 (nI (2 + 7 * j) + nI 1).toNatClampNeg)).1 ∧ S' = (f_deliver N S (G.2.2.2.2 (nI (2 + 7 * j) + nI 1).toNatClampNeg)).2) dL_law_527 lL_58 kX12_deliver ⟨by decide, by decide⟩ hw1.r.1.1 rfl rfl (Nat.le_of_ble_eq_true rfl) (zC.weaken K2 (fun r w' ⟨s', g1, v, g2, g3, g4⟩ => ⟨v, g2, s', g1, g3, g4⟩)) (fun v2 w2 hq => ?_)
  obtain ⟨S2, g2, hv2, rfl⟩ := hq
  have hw2 := hw1.r' g2
  have ev : v1 = v2 := by rw [hv1, hv2]; exact h3
  subst ev
  refine z_icmp_eq (tgt := 1101) dL_law_530 (by decide) (fun _ => kk _ _ _ hw2 h4) (fun c => absurd rfl c)
set_option maxHeartbeats 4000000 in
theorem lw_calm {G : zG} {N g H T a j : Nat} {s : cS} {S : rS} {w : zS} {Rel : Nat → Nat → Nat → cS → rS → Prop} {Q : Option Value → zS → Prop} (hG : zOK G) (hb : G.2.2.2.1.2.2.1 < gN G) (hL : G.2.2.2.1.2.2.2 ≤ 3586) (hj : 2 + 7 * j + 7 ≤ G.2.2.2.1.2.2.2) (hK : pS_kind g Rel) (h : pS_calm N g Rel) (hw : pI G a s S w) (hR : Rel H T j s S) (kk : ∀ s' S' w', pI G a s' S' w' → Rel H T (j + 1) s' S' → zX G dL_law mL_law 1101 [some (.ref G.2.2.2.1.2.2.1), some (.ref g), some (.ref a), some (.int (nI (2 + 7 * j)))] [] w' Q) : zX G dL_law mL_law 535 [some (.ref G.2.2.2.1.2.2.1), some (.ref g), some (.ref a), some (.int (nI (2 + 7 * j)))] [] w Q := by
  obtain ⟨h1, h2, h3, h4⟩ := h H T j s S (G.2.2.2.2 (nI (2 + 7 * j) + nI 1).toNatClampNeg) (G.2.2.2.2 (nI (2 + 7 * j) + nI 2).toNatClampNeg) (by omega) hR
  have e : ∀ k, k < 7 → vp_in (nI (2 + 7 * j) + nI k) G.2.2.2.1.2.2.2 := fun k hk => vx_in (k := 2 + 7 * j + k) (by unfold nI; rw [← Int32.ofNat_add]) (by omega) (by omega)
  refine z_aload_n dL_law_535 rfl rfl ?_
  refine z_aload_n dL_law_536 rfl rfl ?_
  refine z_iload_n dL_law_537 rfl rfl ?_
  refine z_iconst (v := nI 1) dL_law_538 (by decide) ?_
  refine z_iadd dL_law_539 ?_
  refine z_xald hb (e _ (by decide)) dL_law_540 ?_
  refine z_aload_n dL_law_541 rfl rfl ?_
  refine z_iload_n dL_law_542 rfl rfl ?_
  refine z_iconst (v := nI 2) dL_law_543 (by decide) ?_
  refine z_iadd dL_law_544 ?_
  refine z_xald hb (e _ (by decide)) dL_law_545 ?_
  have hst := hK H T j s S hR
  have hk10 : cK s g = 10 := hst.1 9 g oQL
  have K1 := kc_X11_calm (o := pO a w) hG hst oQL h1 w hw.c
  refine z_V2i (y' := mX11_calm) (r := (RX11, TX11, 4)) (Q' := fun v w' => ∃ s', cM G (pO a w) s' w' ∧ v = (k_X11_calm N g H T s g (G.2.2.2.2 (nI (2 + 7 * j) + nI 1).toNatClampNeg) (G.2.2.2.2 (nI (2 + 7 * j) + nI 2).toNatClampNeg)).1 ∧ s' = (k_X11_calm N g H T s g (G.2.2.2.2 (nI (2 + 7 * j) + nI 1).toNatClampNeg) (G.2.2.2.2 (nI (2 + 7 * j) + nI 2).toNatClampNeg)).2) dL_law_546 lL_59 kX11_calm ⟨by decide, by decide⟩ ((hw.1 g (by rw [hk10]; decide)).trans (congrArg some (cenc_obj (ci := 9) hk10 (by decide)))) rfl rfl (Nat.le_of_ble_eq_true rfl) (zC.weaken K1 (fun r w' ⟨s', g1, v, g2, ⟨g3, g4⟩, _⟩ => ⟨v, g2, s', g1, g3, g4⟩)) (fun v1 w1 hq => ?_)
  obtain ⟨s1, g1, hv1, rfl⟩ := hq
  have hw1 := hw.c' g1
  refine z_aload_n dL_law_549 rfl rfl ?_
  refine z_aload_n dL_law_550 rfl rfl ?_
  refine z_iload_n dL_law_551 rfl rfl ?_
  refine z_iconst (v := nI 1) dL_law_552 (by decide) ?_
  refine z_iadd dL_law_553 ?_
  refine z_xald hb (e _ (by decide)) dL_law_554 ?_
  refine z_aload_n dL_law_555 rfl rfl ?_
  refine z_iload_n dL_law_556 rfl rfl ?_
  refine z_iconst (v := nI 2) dL_law_557 (by decide) ?_
  refine z_iadd dL_law_558 ?_
  refine z_xald hb (e _ (by decide)) dL_law_559 ?_
  have K2 := rc_X12_calm (E := (a, rP a, w1)) hG h2 w1 hw1.r
  refine z_V2i (y' := mX12_calm) (r := (RX12, TX12, 89)) (Q' := fun v w' => ∃ S', rI G (a, rP a, w1) S' w' ∧ v = (f_calm N S (G.2.2.2.2 (nI (2 + 7 * j) + nI 1).toNatClampNeg) (G.2.2.2.2 (nI (2 + 7 * j) + nI 2).toNatClampNeg)).1 ∧ S' = (f_calm N S (G.2.2.2.2 (nI (2 + 7 * j) + nI 1).toNatClampNeg) (G.2.2.2.2 (nI (2 + 7 * j) + nI 2).toNatClampNeg)).2) dL_law_560 lL_63 kX12_calm ⟨by decide, by decide⟩ hw1.r.1.1 rfl rfl (Nat.le_of_ble_eq_true rfl) (zC.weaken K2 (fun r w' ⟨s', g1, v, g2, g3, g4⟩ => ⟨v, g2, s', g1, g3, g4⟩)) (fun v2 w2 hq => ?_)
  obtain ⟨S2, g2, hv2, rfl⟩ := hq
  have hw2 := hw1.r' g2
  have ev : v1 = v2 := by rw [hv1, hv2]; exact h3
  subst ev
  refine z_icmp_eq (tgt := 1101) dL_law_563 (by decide) (fun _ => kk _ _ _ hw2 h4) (fun c => absurd rfl c)
set_option maxHeartbeats 4000000 in
theorem lw_copy {G : zG} {N g H T a j : Nat} {s : cS} {S : rS} {w : zS} {Rel : Nat → Nat → Nat → cS → rS → Prop} {Q : Option Value → zS → Prop} (hG : zOK G) (hb : G.2.2.2.1.2.2.1 < gN G) (hL : G.2.2.2.1.2.2.2 ≤ 3586) (hj : 2 + 7 * j + 7 ≤ G.2.2.2.1.2.2.2) (hK : pS_kind g Rel) (h : pS_copy N g Rel) (hw : pI G a s S w) (hR : Rel H T j s S) (kk : ∀ s' S' w', pI G a s' S' w' → Rel H T (j + 1) s' S' → zX G dL_law mL_law 1101 [some (.ref G.2.2.2.1.2.2.1), some (.ref g), some (.ref a), some (.int (nI (2 + 7 * j)))] [] w' Q) : zX G dL_law mL_law 568 [some (.ref G.2.2.2.1.2.2.1), some (.ref g), some (.ref a), some (.int (nI (2 + 7 * j)))] [] w Q := by
  obtain ⟨h1, h2, h3, h4⟩ := h H T j s S (G.2.2.2.2 (nI (2 + 7 * j) + nI 1).toNatClampNeg) (by omega) hR
  have e : ∀ k, k < 7 → vp_in (nI (2 + 7 * j) + nI k) G.2.2.2.1.2.2.2 := fun k hk => vx_in (k := 2 + 7 * j + k) (by unfold nI; rw [← Int32.ofNat_add]) (by omega) (by omega)
  refine z_aload_n dL_law_568 rfl rfl ?_
  refine z_aload_n dL_law_569 rfl rfl ?_
  refine z_iload_n dL_law_570 rfl rfl ?_
  refine z_iconst (v := nI 1) dL_law_571 (by decide) ?_
  refine z_iadd dL_law_572 ?_
  refine z_xald hb (e _ (by decide)) dL_law_573 ?_
  have hst := hK H T j s S hR
  have hk10 : cK s g = 10 := hst.1 9 g oQL
  have K1 := kc_X11_copy (o := pO a w) hG hst oQL h1 w hw.c
  refine z_V1i (y' := mX11_copy) (r := (RX11, TX11, 4)) (Q' := fun v w' => ∃ s', cM G (pO a w) s' w' ∧ v = (k_X11_copy N g H T s g (G.2.2.2.2 (nI (2 + 7 * j) + nI 1).toNatClampNeg)).1 ∧ s' = (k_X11_copy N g H T s g (G.2.2.2.2 (nI (2 + 7 * j) + nI 1).toNatClampNeg)).2) dL_law_574 lL_64 kX11_copy ⟨by decide, by decide⟩ ((hw.1 g (by rw [hk10]; decide)).trans (congrArg some (cenc_obj (ci := 9) hk10 (by decide)))) rfl rfl (Nat.le_of_ble_eq_true rfl) (zC.weaken K1 (fun r w' ⟨s', g1, v, g2, ⟨g3, g4⟩, _⟩ => ⟨v, g2, s', g1, g3, g4⟩)) (fun v1 w1 hq => ?_)
  obtain ⟨s1, g1, hv1, rfl⟩ := hq
  have hw1 := hw.c' g1
  refine z_aload_n dL_law_577 rfl rfl ?_
  refine z_aload_n dL_law_578 rfl rfl ?_
  refine z_iload_n dL_law_579 rfl rfl ?_
  refine z_iconst (v := nI 1) dL_law_580 (by decide) ?_
  refine z_iadd dL_law_581 ?_
  refine z_xald hb (e _ (by decide)) dL_law_582 ?_
  have K2 := rc_X12_copy (E := (a, rP a, w1)) hG h2 w1 hw1.r
  refine z_V1i (y' := mX12_copy) (r := (RX12, TX12, 89)) (Q' := fun v w' => ∃ S', rI G (a, rP a, w1) S' w' ∧ v = (f_copy N S (G.2.2.2.2 (nI (2 + 7 * j) + nI 1).toNatClampNeg)).1 ∧ S' = (f_copy N S (G.2.2.2.2 (nI (2 + 7 * j) + nI 1).toNatClampNeg)).2) dL_law_583 lL_68 kX12_copy ⟨by decide, by decide⟩ hw1.r.1.1 rfl rfl (Nat.le_of_ble_eq_true rfl) (zC.weaken K2 (fun r w' ⟨s', g1, v, g2, g3, g4⟩ => ⟨v, g2, s', g1, g3, g4⟩)) (fun v2 w2 hq => ?_)
  obtain ⟨S2, g2, hv2, rfl⟩ := hq
  have hw2 := hw1.r' g2
  have ev : v1 = v2 := by rw [hv1, hv2]; exact h3
  subst ev
  refine z_icmp_eq (tgt := 1101) dL_law_586 (by decide) (fun _ => kk _ _ _ hw2 h4) (fun c => absurd rfl c)
set_option maxHeartbeats 4000000 in
theorem lw_flying {G : zG} {N g H T a j : Nat} {s : cS} {S : rS} {w : zS} {Rel : Nat → Nat → Nat → cS → rS → Prop} {Q : Option Value → zS → Prop} (hG : zOK G) (hb : G.2.2.2.1.2.2.1 < gN G) (hL : G.2.2.2.1.2.2.2 ≤ 3586) (hj : 2 + 7 * j + 7 ≤ G.2.2.2.1.2.2.2) (hK : pS_kind g Rel) (h : pS_flying N g Rel) (hw : pI G a s S w) (hR : Rel H T j s S) (kk : ∀ s' S' w', pI G a s' S' w' → Rel H T (j + 1) s' S' → zX G dL_law mL_law 1101 [some (.ref G.2.2.2.1.2.2.1), some (.ref g), some (.ref a), some (.int (nI (2 + 7 * j)))] [] w' Q) : zX G dL_law mL_law 591 [some (.ref G.2.2.2.1.2.2.1), some (.ref g), some (.ref a), some (.int (nI (2 + 7 * j)))] [] w Q := by
  obtain ⟨h1, h2, h3, h4⟩ := h H T j s S (G.2.2.2.2 (nI (2 + 7 * j) + nI 1).toNatClampNeg) (G.2.2.2.2 (nI (2 + 7 * j) + nI 2).toNatClampNeg) (by omega) hR
  have e : ∀ k, k < 7 → vp_in (nI (2 + 7 * j) + nI k) G.2.2.2.1.2.2.2 := fun k hk => vx_in (k := 2 + 7 * j + k) (by unfold nI; rw [← Int32.ofNat_add]) (by omega) (by omega)
  refine z_aload_n dL_law_591 rfl rfl ?_
  refine z_aload_n dL_law_592 rfl rfl ?_
  refine z_iload_n dL_law_593 rfl rfl ?_
  refine z_iconst (v := nI 1) dL_law_594 (by decide) ?_
  refine z_iadd dL_law_595 ?_
  refine z_xald hb (e _ (by decide)) dL_law_596 ?_
  refine z_aload_n dL_law_597 rfl rfl ?_
  refine z_iload_n dL_law_598 rfl rfl ?_
  refine z_iconst (v := nI 2) dL_law_599 (by decide) ?_
  refine z_iadd dL_law_600 ?_
  refine z_xald hb (e _ (by decide)) dL_law_601 ?_
  have hst := hK H T j s S hR
  have hk10 : cK s g = 10 := hst.1 9 g oQL
  have K1 := kc_X11_flying (o := pO a w) hG hst oQL h1 w hw.c
  refine z_V2i (y' := mX11_flying) (r := (RX11, TX11, 4)) (Q' := fun v w' => ∃ s', cM G (pO a w) s' w' ∧ v = (k_X11_flying N g H T s g (G.2.2.2.2 (nI (2 + 7 * j) + nI 1).toNatClampNeg) (G.2.2.2.2 (nI (2 + 7 * j) + nI 2).toNatClampNeg)) ∧ s' = s) dL_law_602 lL_69 kX11_flying ⟨by decide, by decide⟩ ((hw.1 g (by rw [hk10]; decide)).trans (congrArg some (cenc_obj (ci := 9) hk10 (by decide)))) rfl rfl (Nat.le_of_ble_eq_true rfl) (zC.weaken K1 (fun r w' ⟨s', g1, v, g2, g3, g4⟩ => ⟨v, g2, s', g1, g3, g4⟩)) (fun v1 w1 hq => ?_)
  obtain ⟨s1, g1, hv1, hs1⟩ := hq
  have hs1 := hs1.symm
  subst hs1
  have hw1 := hw.c' g1
  refine z_aload_n dL_law_605 rfl rfl ?_
  refine z_aload_n dL_law_606 rfl rfl ?_
  refine z_iload_n dL_law_607 rfl rfl ?_
  refine z_iconst (v := nI 1) dL_law_608 (by decide) ?_
  refine z_iadd dL_law_609 ?_
  refine z_xald hb (e _ (by decide)) dL_law_610 ?_
  refine z_aload_n dL_law_611 rfl rfl ?_
  refine z_iload_n dL_law_612 rfl rfl ?_
  refine z_iconst (v := nI 2) dL_law_613 (by decide) ?_
  refine z_iadd dL_law_614 ?_
  refine z_xald hb (e _ (by decide)) dL_law_615 ?_
  have K2 := rc_X12_flying (E := (a, rP a, w1)) hG h2 w1 hw1.r
  refine z_V2i (y' := mX12_flying) (r := (RX12, TX12, 89)) (Q' := fun v w' => ∃ S', rI G (a, rP a, w1) S' w' ∧ v = (f_flying N S (G.2.2.2.2 (nI (2 + 7 * j) + nI 1).toNatClampNeg) (G.2.2.2.2 (nI (2 + 7 * j) + nI 2).toNatClampNeg)) ∧ S' = S) dL_law_616 lL_72 kX12_flying ⟨by decide, by decide⟩ hw1.r.1.1 rfl rfl (Nat.le_of_ble_eq_true rfl) (zC.weaken K2 (fun r w' ⟨s', g1, v, g2, g3, g4⟩ => ⟨v, g2, s', g1, g3, g4⟩)) (fun v2 w2 hq => ?_)
  obtain ⟨S2, g2, hv2, hS2⟩ := hq
  have hS2 := hS2.symm
  subst hS2
  have hw2 := hw1.r' g2
  have ev : v1 = v2 := by rw [hv1, hv2]; exact h3
  subst ev
  refine z_icmp_eq (tgt := 1101) dL_law_619 (by decide) (fun _ => kk _ _ _ hw2 h4) (fun c => absurd rfl c)
set_option maxHeartbeats 4000000 in
theorem lw_bytes {G : zG} {N g H T a j : Nat} {s : cS} {S : rS} {w : zS} {Rel : Nat → Nat → Nat → cS → rS → Prop} {Q : Option Value → zS → Prop} (hG : zOK G) (hb : G.2.2.2.1.2.2.1 < gN G) (hL : G.2.2.2.1.2.2.2 ≤ 3586) (hj : 2 + 7 * j + 7 ≤ G.2.2.2.1.2.2.2) (hK : pS_kind g Rel) (h : pS_bytes N g Rel) (hw : pI G a s S w) (hR : Rel H T j s S) (kk : ∀ s' S' w', pI G a s' S' w' → Rel H T (j + 1) s' S' → zX G dL_law mL_law 1101 [some (.ref G.2.2.2.1.2.2.1), some (.ref g), some (.ref a), some (.int (nI (2 + 7 * j)))] [] w' Q) : zX G dL_law mL_law 624 [some (.ref G.2.2.2.1.2.2.1), some (.ref g), some (.ref a), some (.int (nI (2 + 7 * j)))] [] w Q := by
  obtain ⟨h1, h2, h3, h4⟩ := h H T j s S (G.2.2.2.2 (nI (2 + 7 * j) + nI 1).toNatClampNeg) (G.2.2.2.2 (nI (2 + 7 * j) + nI 2).toNatClampNeg) (by omega) hR
  have e : ∀ k, k < 7 → vp_in (nI (2 + 7 * j) + nI k) G.2.2.2.1.2.2.2 := fun k hk => vx_in (k := 2 + 7 * j + k) (by unfold nI; rw [← Int32.ofNat_add]) (by omega) (by omega)
  refine z_aload_n dL_law_624 rfl rfl ?_
  refine z_aload_n dL_law_625 rfl rfl ?_
  refine z_iload_n dL_law_626 rfl rfl ?_
  refine z_iconst (v := nI 1) dL_law_627 (by decide) ?_
  refine z_iadd dL_law_628 ?_
  refine z_xald hb (e _ (by decide)) dL_law_629 ?_
  refine z_aload_n dL_law_630 rfl rfl ?_
  refine z_iload_n dL_law_631 rfl rfl ?_
  refine z_iconst (v := nI 2) dL_law_632 (by decide) ?_
  refine z_iadd dL_law_633 ?_
  refine z_xald hb (e _ (by decide)) dL_law_634 ?_
  have hst := hK H T j s S hR
  have hk10 : cK s g = 10 := hst.1 9 g oQL
  have K1 := kc_X11_bytes (o := pO a w) hG hst oQL h1 w hw.c
  refine z_V2l (y' := mX11_bytes) (r := (RX11, TX11, 4)) (Q' := fun v w' => ∃ s', cM G (pO a w) s' w' ∧ v = (k_X11_bytes N g H T s g (G.2.2.2.2 (nI (2 + 7 * j) + nI 1).toNatClampNeg) (G.2.2.2.2 (nI (2 + 7 * j) + nI 2).toNatClampNeg)) ∧ s' = s) dL_law_635 lL_73 kX11_bytes ⟨by decide, by decide⟩ ((hw.1 g (by rw [hk10]; decide)).trans (congrArg some (cenc_obj (ci := 9) hk10 (by decide)))) rfl rfl (Nat.le_of_ble_eq_true rfl) (zC.weaken K1 (fun r w' ⟨s', g1, v, g2, g3, g4⟩ => ⟨v, g2, s', g1, g3, g4⟩)) (fun v1 w1 hq => ?_)
  obtain ⟨s1, g1, hv1, hs1⟩ := hq
  have hs1 := hs1.symm
  subst hs1
  have hw1 := hw.c' g1
  refine z_aload_n dL_law_638 rfl rfl ?_
  refine z_aload_n dL_law_639 rfl rfl ?_
  refine z_iload_n dL_law_640 rfl rfl ?_
  refine z_iconst (v := nI 1) dL_law_641 (by decide) ?_
  refine z_iadd dL_law_642 ?_
  refine z_xald hb (e _ (by decide)) dL_law_643 ?_
  refine z_aload_n dL_law_644 rfl rfl ?_
  refine z_iload_n dL_law_645 rfl rfl ?_
  refine z_iconst (v := nI 2) dL_law_646 (by decide) ?_
  refine z_iadd dL_law_647 ?_
  refine z_xald hb (e _ (by decide)) dL_law_648 ?_
  have K2 := rc_X12_bytes (E := (a, rP a, w1)) hG h2 w1 hw1.r
  refine z_V2l (y' := mX12_bytes) (r := (RX12, TX12, 89)) (Q' := fun v w' => ∃ S', rI G (a, rP a, w1) S' w' ∧ v = (f_bytes N S (G.2.2.2.2 (nI (2 + 7 * j) + nI 1).toNatClampNeg) (G.2.2.2.2 (nI (2 + 7 * j) + nI 2).toNatClampNeg)) ∧ S' = S) dL_law_649 lL_76 kX12_bytes ⟨by decide, by decide⟩ hw1.r.1.1 rfl rfl (Nat.le_of_ble_eq_true rfl) (zC.weaken K2 (fun r w' ⟨s', g1, v, g2, g3, g4⟩ => ⟨v, g2, s', g1, g3, g4⟩)) (fun v2 w2 hq => ?_)
  obtain ⟨S2, g2, hv2, hS2⟩ := hq
  have hS2 := hS2.symm
  subst hS2
  have hw2 := hw1.r' g2
  have ev : v1 = v2 := by rw [hv1, hv2]; exact h3
  subst ev
  refine z_lcmp dL_law_652 ?_
  have ez : lg_cmp v1 v1 = 0 := by simp [lg_cmp]
  rw [ez]
  refine z_if_eq (tgt := 1101) dL_law_653 (by decide) (fun _ => kk _ _ _ hw2 h4) (fun c => absurd rfl c)
set_option maxHeartbeats 4000000 in
theorem lw_tick {G : zG} {N g H T a j : Nat} {s : cS} {S : rS} {w : zS} {Rel : Nat → Nat → Nat → cS → rS → Prop} {Q : Option Value → zS → Prop} (hG : zOK G) (hb : G.2.2.2.1.2.2.1 < gN G) (hL : G.2.2.2.1.2.2.2 ≤ 3586) (hj : 2 + 7 * j + 7 ≤ G.2.2.2.1.2.2.2) (hK : pS_kind g Rel) (h : pS_tick N g Rel) (hw : pI G a s S w) (hR : Rel H T j s S) (kk : ∀ s' S' w', pI G a s' S' w' → Rel H T (j + 1) s' S' → zX G dL_law mL_law 1101 [some (.ref G.2.2.2.1.2.2.1), some (.ref g), some (.ref a), some (.int (nI (2 + 7 * j)))] [] w' Q) : zX G dL_law mL_law 658 [some (.ref G.2.2.2.1.2.2.1), some (.ref g), some (.ref a), some (.int (nI (2 + 7 * j)))] [] w Q := by
  obtain ⟨h1, h2, h3, h4⟩ := h H T j s S (by omega) hR
  have e : ∀ k, k < 7 → vp_in (nI (2 + 7 * j) + nI k) G.2.2.2.1.2.2.2 := fun k hk => vx_in (k := 2 + 7 * j + k) (by unfold nI; rw [← Int32.ofNat_add]) (by omega) (by omega)
  refine z_aload_n dL_law_658 rfl rfl ?_
  have hst := hK H T j s S hR
  have hk10 : cK s g = 10 := hst.1 9 g oQL
  have K1 := kc_X11_tick (o := pO a w) hG hst oQL h1 w hw.c
  refine z_V0i (y' := mX11_tick) (r := (RX11, TX11, 4)) (Q' := fun v w' => ∃ s', cM G (pO a w) s' w' ∧ v = (k_X11_tick N g H T s g).1 ∧ s' = (k_X11_tick N g H T s g).2) dL_law_659 lL_77 kX11_tick ⟨by decide, by decide⟩ ((hw.1 g (by rw [hk10]; decide)).trans (congrArg some (cenc_obj (ci := 9) hk10 (by decide)))) rfl rfl (Nat.le_of_ble_eq_true rfl) (zC.weaken K1 (fun r w' ⟨s', g1, v, g2, ⟨g3, g4⟩, _⟩ => ⟨v, g2, s', g1, g3, g4⟩)) (fun v1 w1 hq => ?_)
  obtain ⟨s1, g1, hv1, rfl⟩ := hq
  have hw1 := hw.c' g1
  refine z_aload_n dL_law_662 rfl rfl ?_
  have K2 := rc_X12_tick (E := (a, rP a, w1)) hG h2 w1 hw1.r
  refine z_V0i (y' := mX12_tick) (r := (RX12, TX12, 89)) (Q' := fun v w' => ∃ S', rI G (a, rP a, w1) S' w' ∧ v = (f_tick N S).1 ∧ S' = (f_tick N S).2) dL_law_663 lL_81 kX12_tick ⟨by decide, by decide⟩ hw1.r.1.1 rfl rfl (Nat.le_of_ble_eq_true rfl) (zC.weaken K2 (fun r w' ⟨s', g1, v, g2, g3, g4⟩ => ⟨v, g2, s', g1, g3, g4⟩)) (fun v2 w2 hq => ?_)
  obtain ⟨S2, g2, hv2, rfl⟩ := hq
  have hw2 := hw1.r' g2
  have ev : v1 = v2 := by rw [hv1, hv2]; exact h3
  subst ev
  refine z_icmp_eq (tgt := 1101) dL_law_666 (by decide) (fun _ => kk _ _ _ hw2 h4) (fun c => absurd rfl c)
set_option maxHeartbeats 4000000 in
theorem lw_crash {G : zG} {N g H T a j : Nat} {s : cS} {S : rS} {w : zS} {Rel : Nat → Nat → Nat → cS → rS → Prop} {Q : Option Value → zS → Prop} (hG : zOK G) (hb : G.2.2.2.1.2.2.1 < gN G) (hL : G.2.2.2.1.2.2.2 ≤ 3586) (hj : 2 + 7 * j + 7 ≤ G.2.2.2.1.2.2.2) (hK : pS_kind g Rel) (h : pS_crash N g Rel) (hw : pI G a s S w) (hR : Rel H T j s S) (kk : ∀ s' S' w', pI G a s' S' w' → Rel H T (j + 1) s' S' → zX G dL_law mL_law 1101 [some (.ref G.2.2.2.1.2.2.1), some (.ref g), some (.ref a), some (.int (nI (2 + 7 * j)))] [] w' Q) : zX G dL_law mL_law 671 [some (.ref G.2.2.2.1.2.2.1), some (.ref g), some (.ref a), some (.int (nI (2 + 7 * j)))] [] w Q := by
  obtain ⟨h1, h2, h3, h4⟩ := h H T j s S (G.2.2.2.2 (nI (2 + 7 * j) + nI 1).toNatClampNeg) (by omega) hR
  have e : ∀ k, k < 7 → vp_in (nI (2 + 7 * j) + nI k) G.2.2.2.1.2.2.2 := fun k hk => vx_in (k := 2 + 7 * j + k) (by unfold nI; rw [← Int32.ofNat_add]) (by omega) (by omega)
  refine z_aload_n dL_law_671 rfl rfl ?_
  refine z_aload_n dL_law_672 rfl rfl ?_
  refine z_iload_n dL_law_673 rfl rfl ?_
  refine z_iconst (v := nI 1) dL_law_674 (by decide) ?_
  refine z_iadd dL_law_675 ?_
  refine z_xald hb (e _ (by decide)) dL_law_676 ?_
  have hst := hK H T j s S hR
  have hk10 : cK s g = 10 := hst.1 9 g oQL
  have K1 := kc_X11_crash (o := pO a w) hG hst oQL h1 w hw.c
  refine z_V1i (y' := mX11_crash) (r := (RX11, TX11, 4)) (Q' := fun v w' => ∃ s', cM G (pO a w) s' w' ∧ v = (k_X11_crash N g H T s g (G.2.2.2.2 (nI (2 + 7 * j) + nI 1).toNatClampNeg)).1 ∧ s' = (k_X11_crash N g H T s g (G.2.2.2.2 (nI (2 + 7 * j) + nI 1).toNatClampNeg)).2) dL_law_677 lL_82 kX11_crash ⟨by decide, by decide⟩ ((hw.1 g (by rw [hk10]; decide)).trans (congrArg some (cenc_obj (ci := 9) hk10 (by decide)))) rfl rfl (Nat.le_of_ble_eq_true rfl) (zC.weaken K1 (fun r w' ⟨s', g1, v, g2, ⟨g3, g4⟩, _⟩ => ⟨v, g2, s', g1, g3, g4⟩)) (fun v1 w1 hq => ?_)
  obtain ⟨s1, g1, hv1, rfl⟩ := hq
  have hw1 := hw.c' g1
  refine z_aload_n dL_law_680 rfl rfl ?_
  refine z_aload_n dL_law_681 rfl rfl ?_
  refine z_iload_n dL_law_682 rfl rfl ?_
  refine z_iconst (v := nI 1) dL_law_683 (by decide) ?_
  refine z_iadd dL_law_684 ?_
  refine z_xald hb (e _ (by decide)) dL_law_685 ?_
  have K2 := rc_X12_crash (E := (a, rP a, w1)) hG h2 w1 hw1.r
  refine z_V1i (y' := mX12_crash) (r := (RX12, TX12, 89)) (Q' := fun v w' => ∃ S', rI G (a, rP a, w1) S' w' ∧ v = (f_crash N S (G.2.2.2.2 (nI (2 + 7 * j) + nI 1).toNatClampNeg)).1 ∧ S' = (f_crash N S (G.2.2.2.2 (nI (2 + 7 * j) + nI 1).toNatClampNeg)).2) dL_law_686 lL_85 kX12_crash ⟨by decide, by decide⟩ hw1.r.1.1 rfl rfl (Nat.le_of_ble_eq_true rfl) (zC.weaken K2 (fun r w' ⟨s', g1, v, g2, g3, g4⟩ => ⟨v, g2, s', g1, g3, g4⟩)) (fun v2 w2 hq => ?_)
  obtain ⟨S2, g2, hv2, rfl⟩ := hq
  have hw2 := hw1.r' g2
  have ev : v1 = v2 := by rw [hv1, hv2]; exact h3
  subst ev
  refine z_icmp_eq (tgt := 1101) dL_law_689 (by decide) (fun _ => kk _ _ _ hw2 h4) (fun c => absurd rfl c)
set_option maxHeartbeats 4000000 in
theorem lw_cut {G : zG} {N g H T a j : Nat} {s : cS} {S : rS} {w : zS} {Rel : Nat → Nat → Nat → cS → rS → Prop} {Q : Option Value → zS → Prop} (hG : zOK G) (hb : G.2.2.2.1.2.2.1 < gN G) (hL : G.2.2.2.1.2.2.2 ≤ 3586) (hj : 2 + 7 * j + 7 ≤ G.2.2.2.1.2.2.2) (hK : pS_kind g Rel) (h : pS_cut N g Rel) (hw : pI G a s S w) (hR : Rel H T j s S) (kk : ∀ s' S' w', pI G a s' S' w' → Rel H T (j + 1) s' S' → zX G dL_law mL_law 1101 [some (.ref G.2.2.2.1.2.2.1), some (.ref g), some (.ref a), some (.int (nI (2 + 7 * j)))] [] w' Q) : zX G dL_law mL_law 694 [some (.ref G.2.2.2.1.2.2.1), some (.ref g), some (.ref a), some (.int (nI (2 + 7 * j)))] [] w Q := by
  obtain ⟨h1, h2, h3, h4⟩ := h H T j s S (G.2.2.2.2 (nI (2 + 7 * j) + nI 1).toNatClampNeg) (G.2.2.2.2 (nI (2 + 7 * j) + nI 2).toNatClampNeg) (by omega) hR
  have e : ∀ k, k < 7 → vp_in (nI (2 + 7 * j) + nI k) G.2.2.2.1.2.2.2 := fun k hk => vx_in (k := 2 + 7 * j + k) (by unfold nI; rw [← Int32.ofNat_add]) (by omega) (by omega)
  refine z_aload_n dL_law_694 rfl rfl ?_
  refine z_aload_n dL_law_695 rfl rfl ?_
  refine z_iload_n dL_law_696 rfl rfl ?_
  refine z_iconst (v := nI 1) dL_law_697 (by decide) ?_
  refine z_iadd dL_law_698 ?_
  refine z_xald hb (e _ (by decide)) dL_law_699 ?_
  refine z_aload_n dL_law_700 rfl rfl ?_
  refine z_iload_n dL_law_701 rfl rfl ?_
  refine z_iconst (v := nI 2) dL_law_702 (by decide) ?_
  refine z_iadd dL_law_703 ?_
  refine z_xald hb (e _ (by decide)) dL_law_704 ?_
  have hst := hK H T j s S hR
  have hk10 : cK s g = 10 := hst.1 9 g oQL
  have K1 := kc_X11_cut (o := pO a w) hG hst oQL h1 w hw.c
  refine z_V2i (y' := mX11_cut) (r := (RX11, TX11, 4)) (Q' := fun v w' => ∃ s', cM G (pO a w) s' w' ∧ v = (k_X11_cut N g H T s g (G.2.2.2.2 (nI (2 + 7 * j) + nI 1).toNatClampNeg) (G.2.2.2.2 (nI (2 + 7 * j) + nI 2).toNatClampNeg)).1 ∧ s' = (k_X11_cut N g H T s g (G.2.2.2.2 (nI (2 + 7 * j) + nI 1).toNatClampNeg) (G.2.2.2.2 (nI (2 + 7 * j) + nI 2).toNatClampNeg)).2) dL_law_705 lL_86 kX11_cut ⟨by decide, by decide⟩ ((hw.1 g (by rw [hk10]; decide)).trans (congrArg some (cenc_obj (ci := 9) hk10 (by decide)))) rfl rfl (Nat.le_of_ble_eq_true rfl) (zC.weaken K1 (fun r w' ⟨s', g1, v, g2, ⟨g3, g4⟩, _⟩ => ⟨v, g2, s', g1, g3, g4⟩)) (fun v1 w1 hq => ?_)
  obtain ⟨s1, g1, hv1, rfl⟩ := hq
  have hw1 := hw.c' g1
  refine z_aload_n dL_law_708 rfl rfl ?_
  refine z_aload_n dL_law_709 rfl rfl ?_
  refine z_iload_n dL_law_710 rfl rfl ?_
  refine z_iconst (v := nI 1) dL_law_711 (by decide) ?_
  refine z_iadd dL_law_712 ?_
  refine z_xald hb (e _ (by decide)) dL_law_713 ?_
  refine z_aload_n dL_law_714 rfl rfl ?_
  refine z_iload_n dL_law_715 rfl rfl ?_
  refine z_iconst (v := nI 2) dL_law_716 (by decide) ?_
  refine z_iadd dL_law_717 ?_
  refine z_xald hb (e _ (by decide)) dL_law_718 ?_
  have K2 := rc_X12_cut (E := (a, rP a, w1)) hG h2 w1 hw1.r
  refine z_V2i (y' := mX12_cut) (r := (RX12, TX12, 89)) (Q' := fun v w' => ∃ S', rI G (a, rP a, w1) S' w' ∧ v = (f_cut N S (G.2.2.2.2 (nI (2 + 7 * j) + nI 1).toNatClampNeg) (G.2.2.2.2 (nI (2 + 7 * j) + nI 2).toNatClampNeg)).1 ∧ S' = (f_cut N S (G.2.2.2.2 (nI (2 + 7 * j) + nI 1).toNatClampNeg) (G.2.2.2.2 (nI (2 + 7 * j) + nI 2).toNatClampNeg)).2) dL_law_719 lL_90 kX12_cut ⟨by decide, by decide⟩ hw1.r.1.1 rfl rfl (Nat.le_of_ble_eq_true rfl) (zC.weaken K2 (fun r w' ⟨s', g1, v, g2, g3, g4⟩ => ⟨v, g2, s', g1, g3, g4⟩)) (fun v2 w2 hq => ?_)
  obtain ⟨S2, g2, hv2, rfl⟩ := hq
  have hw2 := hw1.r' g2
  have ev : v1 = v2 := by rw [hv1, hv2]; exact h3
  subst ev
  refine z_icmp_eq (tgt := 1101) dL_law_722 (by decide) (fun _ => kk _ _ _ hw2 h4) (fun c => absurd rfl c)
set_option maxHeartbeats 4000000 in
theorem lw_restart {G : zG} {N g H T a j : Nat} {s : cS} {S : rS} {w : zS} {Rel : Nat → Nat → Nat → cS → rS → Prop} {Q : Option Value → zS → Prop} (hG : zOK G) (hb : G.2.2.2.1.2.2.1 < gN G) (hL : G.2.2.2.1.2.2.2 ≤ 3586) (hj : 2 + 7 * j + 7 ≤ G.2.2.2.1.2.2.2) (hK : pS_kind g Rel) (h : pS_restart N g Rel) (hw : pI G a s S w) (hR : Rel H T j s S) (kk : ∀ s' S' w', pI G a s' S' w' → Rel H T (j + 1) s' S' → zX G dL_law mL_law 1101 [some (.ref G.2.2.2.1.2.2.1), some (.ref g), some (.ref a), some (.int (nI (2 + 7 * j)))] [] w' Q) : zX G dL_law mL_law 727 [some (.ref G.2.2.2.1.2.2.1), some (.ref g), some (.ref a), some (.int (nI (2 + 7 * j)))] [] w Q := by
  obtain ⟨h1, h2, h3, h4⟩ := h H T j s S (G.2.2.2.2 (nI (2 + 7 * j) + nI 1).toNatClampNeg) (by omega) hR
  have e : ∀ k, k < 7 → vp_in (nI (2 + 7 * j) + nI k) G.2.2.2.1.2.2.2 := fun k hk => vx_in (k := 2 + 7 * j + k) (by unfold nI; rw [← Int32.ofNat_add]) (by omega) (by omega)
  refine z_aload_n dL_law_727 rfl rfl ?_
  refine z_aload_n dL_law_728 rfl rfl ?_
  refine z_iload_n dL_law_729 rfl rfl ?_
  refine z_iconst (v := nI 1) dL_law_730 (by decide) ?_
  refine z_iadd dL_law_731 ?_
  refine z_xald hb (e _ (by decide)) dL_law_732 ?_
  have hst := hK H T j s S hR
  have hk10 : cK s g = 10 := hst.1 9 g oQL
  have K1 := kc_X11_restart (o := pO a w) hG hst oQL h1 w hw.c
  refine z_V1i (y' := mX11_restart) (r := (RX11, TX11, 4)) (Q' := fun v w' => ∃ s', cM G (pO a w) s' w' ∧ v = (k_X11_restart N g H T s g (G.2.2.2.2 (nI (2 + 7 * j) + nI 1).toNatClampNeg)).1 ∧ s' = (k_X11_restart N g H T s g (G.2.2.2.2 (nI (2 + 7 * j) + nI 1).toNatClampNeg)).2) dL_law_733 lL_91 kX11_restart ⟨by decide, by decide⟩ ((hw.1 g (by rw [hk10]; decide)).trans (congrArg some (cenc_obj (ci := 9) hk10 (by decide)))) rfl rfl (Nat.le_of_ble_eq_true rfl) (zC.weaken K1 (fun r w' ⟨s', g1, v, g2, ⟨g3, g4⟩, _⟩ => ⟨v, g2, s', g1, g3, g4⟩)) (fun v1 w1 hq => ?_)
  obtain ⟨s1, g1, hv1, rfl⟩ := hq
  have hw1 := hw.c' g1
  refine z_aload_n dL_law_736 rfl rfl ?_
  refine z_aload_n dL_law_737 rfl rfl ?_
  refine z_iload_n dL_law_738 rfl rfl ?_
  refine z_iconst (v := nI 1) dL_law_739 (by decide) ?_
  refine z_iadd dL_law_740 ?_
  refine z_xald hb (e _ (by decide)) dL_law_741 ?_
  have K2 := rc_X12_restart (E := (a, rP a, w1)) hG h2 w1 hw1.r
  refine z_V1i (y' := mX12_restart) (r := (RX12, TX12, 89)) (Q' := fun v w' => ∃ S', rI G (a, rP a, w1) S' w' ∧ v = (f_restart N S (G.2.2.2.2 (nI (2 + 7 * j) + nI 1).toNatClampNeg)).1 ∧ S' = (f_restart N S (G.2.2.2.2 (nI (2 + 7 * j) + nI 1).toNatClampNeg)).2) dL_law_742 lL_94 kX12_restart ⟨by decide, by decide⟩ hw1.r.1.1 rfl rfl (Nat.le_of_ble_eq_true rfl) (zC.weaken K2 (fun r w' ⟨s', g1, v, g2, g3, g4⟩ => ⟨v, g2, s', g1, g3, g4⟩)) (fun v2 w2 hq => ?_)
  obtain ⟨S2, g2, hv2, rfl⟩ := hq
  have hw2 := hw1.r' g2
  have ev : v1 = v2 := by rw [hv1, hv2]; exact h3
  subst ev
  refine z_icmp_eq (tgt := 1101) dL_law_745 (by decide) (fun _ => kk _ _ _ hw2 h4) (fun c => absurd rfl c)
set_option maxHeartbeats 4000000 in
theorem lw_state {G : zG} {N g H T a j : Nat} {s : cS} {S : rS} {w : zS} {Rel : Nat → Nat → Nat → cS → rS → Prop} {Q : Option Value → zS → Prop} (hG : zOK G) (hb : G.2.2.2.1.2.2.1 < gN G) (hL : G.2.2.2.1.2.2.2 ≤ 3586) (hj : 2 + 7 * j + 7 ≤ G.2.2.2.1.2.2.2) (hK : pS_kind g Rel) (h : pS_state N g Rel) (hw : pI G a s S w) (hR : Rel H T j s S) (kk : ∀ s' S' w', pI G a s' S' w' → Rel H T (j + 1) s' S' → zX G dL_law mL_law 1101 [some (.ref G.2.2.2.1.2.2.1), some (.ref g), some (.ref a), some (.int (nI (2 + 7 * j)))] [] w' Q) : zX G dL_law mL_law 750 [some (.ref G.2.2.2.1.2.2.1), some (.ref g), some (.ref a), some (.int (nI (2 + 7 * j)))] [] w Q := by
  obtain ⟨h1, h2, h3, h4⟩ := h H T j s S (G.2.2.2.2 (nI (2 + 7 * j) + nI 1).toNatClampNeg) (G.2.2.2.2 (nI (2 + 7 * j) + nI 2).toNatClampNeg) (by omega) hR
  have e : ∀ k, k < 7 → vp_in (nI (2 + 7 * j) + nI k) G.2.2.2.1.2.2.2 := fun k hk => vx_in (k := 2 + 7 * j + k) (by unfold nI; rw [← Int32.ofNat_add]) (by omega) (by omega)
  refine z_aload_n dL_law_750 rfl rfl ?_
  refine z_aload_n dL_law_751 rfl rfl ?_
  refine z_iload_n dL_law_752 rfl rfl ?_
  refine z_iconst (v := nI 1) dL_law_753 (by decide) ?_
  refine z_iadd dL_law_754 ?_
  refine z_xald hb (e _ (by decide)) dL_law_755 ?_
  refine z_aload_n dL_law_756 rfl rfl ?_
  refine z_iload_n dL_law_757 rfl rfl ?_
  refine z_iconst (v := nI 2) dL_law_758 (by decide) ?_
  refine z_iadd dL_law_759 ?_
  refine z_xald hb (e _ (by decide)) dL_law_760 ?_
  have hst := hK H T j s S hR
  have hk10 : cK s g = 10 := hst.1 9 g oQL
  have K1 := kc_X11_state (o := pO a w) hG hst oQL h1 w hw.c
  refine z_V2i (y' := mX11_state) (r := (RX11, TX11, 4)) (Q' := fun v w' => ∃ s', cM G (pO a w) s' w' ∧ v = (k_X11_state N g H T s g (G.2.2.2.2 (nI (2 + 7 * j) + nI 1).toNatClampNeg) (G.2.2.2.2 (nI (2 + 7 * j) + nI 2).toNatClampNeg)) ∧ s' = s) dL_law_761 lL_95 kX11_state ⟨by decide, by decide⟩ ((hw.1 g (by rw [hk10]; decide)).trans (congrArg some (cenc_obj (ci := 9) hk10 (by decide)))) rfl rfl (Nat.le_of_ble_eq_true rfl) (zC.weaken K1 (fun r w' ⟨s', g1, v, g2, g3, g4⟩ => ⟨v, g2, s', g1, g3, g4⟩)) (fun v1 w1 hq => ?_)
  obtain ⟨s1, g1, hv1, hs1⟩ := hq
  have hs1 := hs1.symm
  subst hs1
  have hw1 := hw.c' g1
  refine z_aload_n dL_law_764 rfl rfl ?_
  refine z_aload_n dL_law_765 rfl rfl ?_
  refine z_iload_n dL_law_766 rfl rfl ?_
  refine z_iconst (v := nI 1) dL_law_767 (by decide) ?_
  refine z_iadd dL_law_768 ?_
  refine z_xald hb (e _ (by decide)) dL_law_769 ?_
  refine z_aload_n dL_law_770 rfl rfl ?_
  refine z_iload_n dL_law_771 rfl rfl ?_
  refine z_iconst (v := nI 2) dL_law_772 (by decide) ?_
  refine z_iadd dL_law_773 ?_
  refine z_xald hb (e _ (by decide)) dL_law_774 ?_
  have K2 := rc_X12_state (E := (a, rP a, w1)) hG h2 w1 hw1.r
  refine z_V2i (y' := mX12_state) (r := (RX12, TX12, 89)) (Q' := fun v w' => ∃ S', rI G (a, rP a, w1) S' w' ∧ v = (f_state N S (G.2.2.2.2 (nI (2 + 7 * j) + nI 1).toNatClampNeg) (G.2.2.2.2 (nI (2 + 7 * j) + nI 2).toNatClampNeg)) ∧ S' = S) dL_law_775 lL_98 kX12_state ⟨by decide, by decide⟩ hw1.r.1.1 rfl rfl (Nat.le_of_ble_eq_true rfl) (zC.weaken K2 (fun r w' ⟨s', g1, v, g2, g3, g4⟩ => ⟨v, g2, s', g1, g3, g4⟩)) (fun v2 w2 hq => ?_)
  obtain ⟨S2, g2, hv2, hS2⟩ := hq
  have hS2 := hS2.symm
  subst hS2
  have hw2 := hw1.r' g2
  have ev : v1 = v2 := by rw [hv1, hv2]; exact h3
  subst ev
  refine z_icmp_eq (tgt := 1101) dL_law_778 (by decide) (fun _ => kk _ _ _ hw2 h4) (fun c => absurd rfl c)
set_option maxHeartbeats 4000000 in
theorem lw_block {G : zG} {N g H T a j : Nat} {s : cS} {S : rS} {w : zS} {Rel : Nat → Nat → Nat → cS → rS → Prop} {Q : Option Value → zS → Prop} (hG : zOK G) (hb : G.2.2.2.1.2.2.1 < gN G) (hL : G.2.2.2.1.2.2.2 ≤ 3586) (hj : 2 + 7 * j + 7 ≤ G.2.2.2.1.2.2.2) (hK : pS_kind g Rel) (h : pS_block N g Rel) (hw : pI G a s S w) (hR : Rel H T j s S) (kk : ∀ s' S' w', pI G a s' S' w' → Rel H T (j + 1) s' S' → zX G dL_law mL_law 1101 [some (.ref G.2.2.2.1.2.2.1), some (.ref g), some (.ref a), some (.int (nI (2 + 7 * j)))] [] w' Q) : zX G dL_law mL_law 783 [some (.ref G.2.2.2.1.2.2.1), some (.ref g), some (.ref a), some (.int (nI (2 + 7 * j)))] [] w Q := by
  obtain ⟨h1, h2, h3, h4⟩ := h H T j s S (G.2.2.2.2 (nI (2 + 7 * j) + nI 1).toNatClampNeg) (G.2.2.2.2 (nI (2 + 7 * j) + nI 2).toNatClampNeg) (G.2.2.2.2 (nI (2 + 7 * j) + nI 3).toNatClampNeg) (by omega) hR
  have e : ∀ k, k < 7 → vp_in (nI (2 + 7 * j) + nI k) G.2.2.2.1.2.2.2 := fun k hk => vx_in (k := 2 + 7 * j + k) (by unfold nI; rw [← Int32.ofNat_add]) (by omega) (by omega)
  refine z_aload_n dL_law_783 rfl rfl ?_
  refine z_aload_n dL_law_784 rfl rfl ?_
  refine z_iload_n dL_law_785 rfl rfl ?_
  refine z_iconst (v := nI 1) dL_law_786 (by decide) ?_
  refine z_iadd dL_law_787 ?_
  refine z_xald hb (e _ (by decide)) dL_law_788 ?_
  refine z_aload_n dL_law_789 rfl rfl ?_
  refine z_iload_n dL_law_790 rfl rfl ?_
  refine z_iconst (v := nI 2) dL_law_791 (by decide) ?_
  refine z_iadd dL_law_792 ?_
  refine z_xald hb (e _ (by decide)) dL_law_793 ?_
  refine z_aload_n dL_law_794 rfl rfl ?_
  refine z_iload_n dL_law_795 rfl rfl ?_
  refine z_iconst (v := nI 3) dL_law_796 (by decide) ?_
  refine z_iadd dL_law_797 ?_
  refine z_xald hb (e _ (by decide)) dL_law_798 ?_
  have hst := hK H T j s S hR
  have hk10 : cK s g = 10 := hst.1 9 g oQL
  have K1 := kc_X11_block (o := pO a w) hG hst oQL h1 w hw.c
  refine z_V3l (y' := mX11_block) (r := (RX11, TX11, 4)) (Q' := fun v w' => ∃ s', cM G (pO a w) s' w' ∧ v = (k_X11_block N g H T s g (G.2.2.2.2 (nI (2 + 7 * j) + nI 1).toNatClampNeg) (G.2.2.2.2 (nI (2 + 7 * j) + nI 2).toNatClampNeg) (G.2.2.2.2 (nI (2 + 7 * j) + nI 3).toNatClampNeg)).1 ∧ s' = (k_X11_block N g H T s g (G.2.2.2.2 (nI (2 + 7 * j) + nI 1).toNatClampNeg) (G.2.2.2.2 (nI (2 + 7 * j) + nI 2).toNatClampNeg) (G.2.2.2.2 (nI (2 + 7 * j) + nI 3).toNatClampNeg)).2) dL_law_799 lL_99 kX11_block ⟨by decide, by decide⟩ ((hw.1 g (by rw [hk10]; decide)).trans (congrArg some (cenc_obj (ci := 9) hk10 (by decide)))) rfl rfl (Nat.le_of_ble_eq_true rfl) (zC.weaken K1 (fun r w' ⟨s', g1, v, g2, ⟨g3, g4⟩, _⟩ => ⟨v, g2, s', g1, g3, g4⟩)) (fun v1 w1 hq => ?_)
  obtain ⟨s1, g1, hv1, rfl⟩ := hq
  have hw1 := hw.c' g1
  refine z_aload_n dL_law_802 rfl rfl ?_
  refine z_aload_n dL_law_803 rfl rfl ?_
  refine z_iload_n dL_law_804 rfl rfl ?_
  refine z_iconst (v := nI 1) dL_law_805 (by decide) ?_
  refine z_iadd dL_law_806 ?_
  refine z_xald hb (e _ (by decide)) dL_law_807 ?_
  refine z_aload_n dL_law_808 rfl rfl ?_
  refine z_iload_n dL_law_809 rfl rfl ?_
  refine z_iconst (v := nI 2) dL_law_810 (by decide) ?_
  refine z_iadd dL_law_811 ?_
  refine z_xald hb (e _ (by decide)) dL_law_812 ?_
  refine z_aload_n dL_law_813 rfl rfl ?_
  refine z_iload_n dL_law_814 rfl rfl ?_
  refine z_iconst (v := nI 3) dL_law_815 (by decide) ?_
  refine z_iadd dL_law_816 ?_
  refine z_xald hb (e _ (by decide)) dL_law_817 ?_
  have K2 := rc_X12_block (E := (a, rP a, w1)) hG h2 w1 hw1.r
  refine z_V3l (y' := mX12_block) (r := (RX12, TX12, 89)) (Q' := fun v w' => ∃ S', rI G (a, rP a, w1) S' w' ∧ v = (f_block N S (G.2.2.2.2 (nI (2 + 7 * j) + nI 1).toNatClampNeg) (G.2.2.2.2 (nI (2 + 7 * j) + nI 2).toNatClampNeg) (G.2.2.2.2 (nI (2 + 7 * j) + nI 3).toNatClampNeg)) ∧ S' = S) dL_law_818 lL_103 kX12_block ⟨by decide, by decide⟩ hw1.r.1.1 rfl rfl (Nat.le_of_ble_eq_true rfl) (zC.weaken K2 (fun r w' ⟨s', g1, v, g2, g3, g4⟩ => ⟨v, g2, s', g1, g3, g4⟩)) (fun v2 w2 hq => ?_)
  obtain ⟨S2, g2, hv2, hS2⟩ := hq
  have hS2 := hS2.symm
  subst hS2
  have hw2 := hw1.r' g2
  have ev : v1 = v2 := by rw [hv1, hv2]; exact h3
  subst ev
  refine z_lcmp dL_law_821 ?_
  have ez : lg_cmp v1 v1 = 0 := by simp [lg_cmp]
  rw [ez]
  refine z_if_eq (tgt := 1101) dL_law_822 (by decide) (fun _ => kk _ _ _ hw2 h4) (fun c => absurd rfl c)
set_option maxHeartbeats 4000000 in
theorem lw_paid {G : zG} {N g H T a j : Nat} {s : cS} {S : rS} {w : zS} {Rel : Nat → Nat → Nat → cS → rS → Prop} {Q : Option Value → zS → Prop} (hG : zOK G) (hb : G.2.2.2.1.2.2.1 < gN G) (hL : G.2.2.2.1.2.2.2 ≤ 3586) (hj : 2 + 7 * j + 7 ≤ G.2.2.2.1.2.2.2) (hK : pS_kind g Rel) (h : pS_paid N g Rel) (hw : pI G a s S w) (hR : Rel H T j s S) (kk : ∀ s' S' w', pI G a s' S' w' → Rel H T (j + 1) s' S' → zX G dL_law mL_law 1101 [some (.ref G.2.2.2.1.2.2.1), some (.ref g), some (.ref a), some (.int (nI (2 + 7 * j)))] [] w' Q) : zX G dL_law mL_law 827 [some (.ref G.2.2.2.1.2.2.1), some (.ref g), some (.ref a), some (.int (nI (2 + 7 * j)))] [] w Q := by
  obtain ⟨h1, h2, h3, h4⟩ := h H T j s S (G.2.2.2.2 (nI (2 + 7 * j) + nI 1).toNatClampNeg) (G.2.2.2.2 (nI (2 + 7 * j) + nI 2).toNatClampNeg) (by omega) hR
  have e : ∀ k, k < 7 → vp_in (nI (2 + 7 * j) + nI k) G.2.2.2.1.2.2.2 := fun k hk => vx_in (k := 2 + 7 * j + k) (by unfold nI; rw [← Int32.ofNat_add]) (by omega) (by omega)
  refine z_aload_n dL_law_827 rfl rfl ?_
  refine z_aload_n dL_law_828 rfl rfl ?_
  refine z_iload_n dL_law_829 rfl rfl ?_
  refine z_iconst (v := nI 1) dL_law_830 (by decide) ?_
  refine z_iadd dL_law_831 ?_
  refine z_xald hb (e _ (by decide)) dL_law_832 ?_
  refine z_aload_n dL_law_833 rfl rfl ?_
  refine z_iload_n dL_law_834 rfl rfl ?_
  refine z_iconst (v := nI 2) dL_law_835 (by decide) ?_
  refine z_iadd dL_law_836 ?_
  refine z_xald hb (e _ (by decide)) dL_law_837 ?_
  have hst := hK H T j s S hR
  have hk10 : cK s g = 10 := hst.1 9 g oQL
  have K1 := kc_X11_paid (o := pO a w) hG hst oQL h1 w hw.c
  refine z_V2i (y' := mX11_paid) (r := (RX11, TX11, 4)) (Q' := fun v w' => ∃ s', cM G (pO a w) s' w' ∧ v = (k_X11_paid N g H T s g (G.2.2.2.2 (nI (2 + 7 * j) + nI 1).toNatClampNeg) (G.2.2.2.2 (nI (2 + 7 * j) + nI 2).toNatClampNeg)) ∧ s' = s) dL_law_838 lL_104 kX11_paid ⟨by decide, by decide⟩ ((hw.1 g (by rw [hk10]; decide)).trans (congrArg some (cenc_obj (ci := 9) hk10 (by decide)))) rfl rfl (Nat.le_of_ble_eq_true rfl) (zC.weaken K1 (fun r w' ⟨s', g1, v, g2, g3, g4⟩ => ⟨v, g2, s', g1, g3, g4⟩)) (fun v1 w1 hq => ?_)
  obtain ⟨s1, g1, hv1, hs1⟩ := hq
  have hs1 := hs1.symm
  subst hs1
  have hw1 := hw.c' g1
  refine z_aload_n dL_law_841 rfl rfl ?_
  refine z_aload_n dL_law_842 rfl rfl ?_
  refine z_iload_n dL_law_843 rfl rfl ?_
  refine z_iconst (v := nI 1) dL_law_844 (by decide) ?_
  refine z_iadd dL_law_845 ?_
  refine z_xald hb (e _ (by decide)) dL_law_846 ?_
  refine z_aload_n dL_law_847 rfl rfl ?_
  refine z_iload_n dL_law_848 rfl rfl ?_
  refine z_iconst (v := nI 2) dL_law_849 (by decide) ?_
  refine z_iadd dL_law_850 ?_
  refine z_xald hb (e _ (by decide)) dL_law_851 ?_
  have K2 := rc_X12_paid (E := (a, rP a, w1)) hG h2 w1 hw1.r
  refine z_V2i (y' := mX12_paid) (r := (RX12, TX12, 89)) (Q' := fun v w' => ∃ S', rI G (a, rP a, w1) S' w' ∧ v = (f_paid N S (G.2.2.2.2 (nI (2 + 7 * j) + nI 1).toNatClampNeg) (G.2.2.2.2 (nI (2 + 7 * j) + nI 2).toNatClampNeg)).1 ∧ S' = (f_paid N S (G.2.2.2.2 (nI (2 + 7 * j) + nI 1).toNatClampNeg) (G.2.2.2.2 (nI (2 + 7 * j) + nI 2).toNatClampNeg)).2) dL_law_852 lL_107 kX12_paid ⟨by decide, by decide⟩ hw1.r.1.1 rfl rfl (Nat.le_of_ble_eq_true rfl) (zC.weaken K2 (fun r w' ⟨s', g1, v, g2, g3, g4⟩ => ⟨v, g2, s', g1, g3, g4⟩)) (fun v2 w2 hq => ?_)
  obtain ⟨S2, g2, hv2, rfl⟩ := hq
  have hw2 := hw1.r' g2
  have ev : v1 = v2 := by rw [hv1, hv2]; exact h3
  subst ev
  refine z_icmp_eq (tgt := 1101) dL_law_855 (by decide) (fun _ => kk _ _ _ hw2 h4) (fun c => absurd rfl c)
set_option maxHeartbeats 4000000 in
theorem lw_path_ {G : zG} {N g H T a j : Nat} {s : cS} {S : rS} {w : zS} {Rel : Nat → Nat → Nat → cS → rS → Prop} {Q : Option Value → zS → Prop} (hG : zOK G) (hb : G.2.2.2.1.2.2.1 < gN G) (hL : G.2.2.2.1.2.2.2 ≤ 3586) (hj : 2 + 7 * j + 7 ≤ G.2.2.2.1.2.2.2) (hK : pS_kind g Rel) (h : pS_path_ N g Rel) (hw : pI G a s S w) (hR : Rel H T j s S) (kk : ∀ s' S' w', pI G a s' S' w' → Rel H T (j + 1) s' S' → zX G dL_law mL_law 1101 [some (.ref G.2.2.2.1.2.2.1), some (.ref g), some (.ref a), some (.int (nI (2 + 7 * j)))] [] w' Q) : zX G dL_law mL_law 860 [some (.ref G.2.2.2.1.2.2.1), some (.ref g), some (.ref a), some (.int (nI (2 + 7 * j)))] [] w Q := by
  obtain ⟨h1, h2, h3, h4⟩ := h H T j s S (G.2.2.2.2 (nI (2 + 7 * j) + nI 1).toNatClampNeg) (G.2.2.2.2 (nI (2 + 7 * j) + nI 2).toNatClampNeg) (G.2.2.2.2 (nI (2 + 7 * j) + nI 3).toNatClampNeg) (G.2.2.2.2 (nI (2 + 7 * j) + nI 4).toNatClampNeg) (by omega) hR
  have e : ∀ k, k < 7 → vp_in (nI (2 + 7 * j) + nI k) G.2.2.2.1.2.2.2 := fun k hk => vx_in (k := 2 + 7 * j + k) (by unfold nI; rw [← Int32.ofNat_add]) (by omega) (by omega)
  refine z_aload_n dL_law_860 rfl rfl ?_
  refine z_aload_n dL_law_861 rfl rfl ?_
  refine z_iload_n dL_law_862 rfl rfl ?_
  refine z_iconst (v := nI 1) dL_law_863 (by decide) ?_
  refine z_iadd dL_law_864 ?_
  refine z_xald hb (e _ (by decide)) dL_law_865 ?_
  refine z_aload_n dL_law_866 rfl rfl ?_
  refine z_iload_n dL_law_867 rfl rfl ?_
  refine z_iconst (v := nI 2) dL_law_868 (by decide) ?_
  refine z_iadd dL_law_869 ?_
  refine z_xald hb (e _ (by decide)) dL_law_870 ?_
  refine z_aload_n dL_law_871 rfl rfl ?_
  refine z_iload_n dL_law_872 rfl rfl ?_
  refine z_iconst (v := nI 3) dL_law_873 (by decide) ?_
  refine z_iadd dL_law_874 ?_
  refine z_xald hb (e _ (by decide)) dL_law_875 ?_
  refine z_aload_n dL_law_876 rfl rfl ?_
  refine z_iload_n dL_law_877 rfl rfl ?_
  refine z_iconst (v := nI 4) dL_law_878 (by decide) ?_
  refine z_iadd dL_law_879 ?_
  refine z_xald hb (e _ (by decide)) dL_law_880 ?_
  have hst := hK H T j s S hR
  have hk10 : cK s g = 10 := hst.1 9 g oQL
  have K1 := kc_X11_path (o := pO a w) hG hst oQL h1 w hw.c
  refine z_V4l (y' := mX11_path) (r := (RX11, TX11, 4)) (Q' := fun v w' => ∃ s', cM G (pO a w) s' w' ∧ v = (k_X11_path N g H T s g (G.2.2.2.2 (nI (2 + 7 * j) + nI 1).toNatClampNeg) (G.2.2.2.2 (nI (2 + 7 * j) + nI 2).toNatClampNeg) (G.2.2.2.2 (nI (2 + 7 * j) + nI 3).toNatClampNeg) (G.2.2.2.2 (nI (2 + 7 * j) + nI 4).toNatClampNeg)).1 ∧ s' = (k_X11_path N g H T s g (G.2.2.2.2 (nI (2 + 7 * j) + nI 1).toNatClampNeg) (G.2.2.2.2 (nI (2 + 7 * j) + nI 2).toNatClampNeg) (G.2.2.2.2 (nI (2 + 7 * j) + nI 3).toNatClampNeg) (G.2.2.2.2 (nI (2 + 7 * j) + nI 4).toNatClampNeg)).2) dL_law_881 lL_108 kX11_path ⟨by decide, by decide⟩ ((hw.1 g (by rw [hk10]; decide)).trans (congrArg some (cenc_obj (ci := 9) hk10 (by decide)))) rfl rfl (Nat.le_of_ble_eq_true rfl) (zC.weaken K1 (fun r w' ⟨s', g1, v, g2, ⟨g3, g4⟩, _⟩ => ⟨v, g2, s', g1, g3, g4⟩)) (fun v1 w1 hq => ?_)
  obtain ⟨s1, g1, hv1, rfl⟩ := hq
  have hw1 := hw.c' g1
  refine z_aload_n dL_law_884 rfl rfl ?_
  refine z_aload_n dL_law_885 rfl rfl ?_
  refine z_iload_n dL_law_886 rfl rfl ?_
  refine z_iconst (v := nI 1) dL_law_887 (by decide) ?_
  refine z_iadd dL_law_888 ?_
  refine z_xald hb (e _ (by decide)) dL_law_889 ?_
  refine z_aload_n dL_law_890 rfl rfl ?_
  refine z_iload_n dL_law_891 rfl rfl ?_
  refine z_iconst (v := nI 2) dL_law_892 (by decide) ?_
  refine z_iadd dL_law_893 ?_
  refine z_xald hb (e _ (by decide)) dL_law_894 ?_
  refine z_aload_n dL_law_895 rfl rfl ?_
  refine z_iload_n dL_law_896 rfl rfl ?_
  refine z_iconst (v := nI 3) dL_law_897 (by decide) ?_
  refine z_iadd dL_law_898 ?_
  refine z_xald hb (e _ (by decide)) dL_law_899 ?_
  refine z_aload_n dL_law_900 rfl rfl ?_
  refine z_iload_n dL_law_901 rfl rfl ?_
  refine z_iconst (v := nI 4) dL_law_902 (by decide) ?_
  refine z_iadd dL_law_903 ?_
  refine z_xald hb (e _ (by decide)) dL_law_904 ?_
  have K2 := rc_X12_path_ (E := (a, rP a, w1)) hG h2 w1 hw1.r
  refine z_V4l (y' := mX12_path_) (r := (RX12, TX12, 89)) (Q' := fun v w' => ∃ S', rI G (a, rP a, w1) S' w' ∧ v = (f_path_ N S (G.2.2.2.2 (nI (2 + 7 * j) + nI 1).toNatClampNeg) (G.2.2.2.2 (nI (2 + 7 * j) + nI 2).toNatClampNeg) (G.2.2.2.2 (nI (2 + 7 * j) + nI 3).toNatClampNeg) (G.2.2.2.2 (nI (2 + 7 * j) + nI 4).toNatClampNeg)).1 ∧ S' = (f_path_ N S (G.2.2.2.2 (nI (2 + 7 * j) + nI 1).toNatClampNeg) (G.2.2.2.2 (nI (2 + 7 * j) + nI 2).toNatClampNeg) (G.2.2.2.2 (nI (2 + 7 * j) + nI 3).toNatClampNeg) (G.2.2.2.2 (nI (2 + 7 * j) + nI 4).toNatClampNeg)).2) dL_law_905 lL_112 kX12_path_ ⟨by decide, by decide⟩ hw1.r.1.1 rfl rfl (Nat.le_of_ble_eq_true rfl) (zC.weaken K2 (fun r w' ⟨s', g1, v, g2, g3, g4⟩ => ⟨v, g2, s', g1, g3, g4⟩)) (fun v2 w2 hq => ?_)
  obtain ⟨S2, g2, hv2, rfl⟩ := hq
  have hw2 := hw1.r' g2
  have ev : v1 = v2 := by rw [hv1, hv2]; exact h3
  subst ev
  refine z_lcmp dL_law_908 ?_
  have ez : lg_cmp v1 v1 = 0 := by simp [lg_cmp]
  rw [ez]
  refine z_if_eq (tgt := 1101) dL_law_909 (by decide) (fun _ => kk _ _ _ hw2 h4) (fun c => absurd rfl c)
set_option maxHeartbeats 4000000 in
theorem lw_account {G : zG} {N g H T a j : Nat} {s : cS} {S : rS} {w : zS} {Rel : Nat → Nat → Nat → cS → rS → Prop} {Q : Option Value → zS → Prop} (hG : zOK G) (hb : G.2.2.2.1.2.2.1 < gN G) (hL : G.2.2.2.1.2.2.2 ≤ 3586) (hj : 2 + 7 * j + 7 ≤ G.2.2.2.1.2.2.2) (hK : pS_kind g Rel) (h : pS_account N g Rel) (hw : pI G a s S w) (hR : Rel H T j s S) (kk : ∀ s' S' w', pI G a s' S' w' → Rel H T (j + 1) s' S' → zX G dL_law mL_law 1101 [some (.ref G.2.2.2.1.2.2.1), some (.ref g), some (.ref a), some (.int (nI (2 + 7 * j)))] [] w' Q) : zX G dL_law mL_law 914 [some (.ref G.2.2.2.1.2.2.1), some (.ref g), some (.ref a), some (.int (nI (2 + 7 * j)))] [] w Q := by
  obtain ⟨h1, h2, h3, h4⟩ := h H T j s S (G.2.2.2.2 (nI (2 + 7 * j) + nI 1).toNatClampNeg) (G.2.2.2.2 (nI (2 + 7 * j) + nI 2).toNatClampNeg) (G.2.2.2.2 (nI (2 + 7 * j) + nI 3).toNatClampNeg) (by omega) hR
  have e : ∀ k, k < 7 → vp_in (nI (2 + 7 * j) + nI k) G.2.2.2.1.2.2.2 := fun k hk => vx_in (k := 2 + 7 * j + k) (by unfold nI; rw [← Int32.ofNat_add]) (by omega) (by omega)
  refine z_aload_n dL_law_914 rfl rfl ?_
  refine z_aload_n dL_law_915 rfl rfl ?_
  refine z_iload_n dL_law_916 rfl rfl ?_
  refine z_iconst (v := nI 1) dL_law_917 (by decide) ?_
  refine z_iadd dL_law_918 ?_
  refine z_xald hb (e _ (by decide)) dL_law_919 ?_
  refine z_aload_n dL_law_920 rfl rfl ?_
  refine z_iload_n dL_law_921 rfl rfl ?_
  refine z_iconst (v := nI 2) dL_law_922 (by decide) ?_
  refine z_iadd dL_law_923 ?_
  refine z_xald hb (e _ (by decide)) dL_law_924 ?_
  refine z_aload_n dL_law_925 rfl rfl ?_
  refine z_iload_n dL_law_926 rfl rfl ?_
  refine z_iconst (v := nI 3) dL_law_927 (by decide) ?_
  refine z_iadd dL_law_928 ?_
  refine z_xald hb (e _ (by decide)) dL_law_929 ?_
  have hst := hK H T j s S hR
  have hk10 : cK s g = 10 := hst.1 9 g oQL
  have K1 := kc_X11_account (o := pO a w) hG hst oQL h1 w hw.c
  refine z_V3l (y' := mX11_account) (r := (RX11, TX11, 4)) (Q' := fun v w' => ∃ s', cM G (pO a w) s' w' ∧ v = (k_X11_account N g H T s g (G.2.2.2.2 (nI (2 + 7 * j) + nI 1).toNatClampNeg) (G.2.2.2.2 (nI (2 + 7 * j) + nI 2).toNatClampNeg) (G.2.2.2.2 (nI (2 + 7 * j) + nI 3).toNatClampNeg)).1 ∧ s' = (k_X11_account N g H T s g (G.2.2.2.2 (nI (2 + 7 * j) + nI 1).toNatClampNeg) (G.2.2.2.2 (nI (2 + 7 * j) + nI 2).toNatClampNeg) (G.2.2.2.2 (nI (2 + 7 * j) + nI 3).toNatClampNeg)).2) dL_law_930 lL_113 kX11_account ⟨by decide, by decide⟩ ((hw.1 g (by rw [hk10]; decide)).trans (congrArg some (cenc_obj (ci := 9) hk10 (by decide)))) rfl rfl (Nat.le_of_ble_eq_true rfl) (zC.weaken K1 (fun r w' ⟨s', g1, v, g2, ⟨g3, g4⟩, _⟩ => ⟨v, g2, s', g1, g3, g4⟩)) (fun v1 w1 hq => ?_)
  obtain ⟨s1, g1, hv1, rfl⟩ := hq
  have hw1 := hw.c' g1
  refine z_aload_n dL_law_933 rfl rfl ?_
  refine z_aload_n dL_law_934 rfl rfl ?_
  refine z_iload_n dL_law_935 rfl rfl ?_
  refine z_iconst (v := nI 1) dL_law_936 (by decide) ?_
  refine z_iadd dL_law_937 ?_
  refine z_xald hb (e _ (by decide)) dL_law_938 ?_
  refine z_aload_n dL_law_939 rfl rfl ?_
  refine z_iload_n dL_law_940 rfl rfl ?_
  refine z_iconst (v := nI 2) dL_law_941 (by decide) ?_
  refine z_iadd dL_law_942 ?_
  refine z_xald hb (e _ (by decide)) dL_law_943 ?_
  refine z_aload_n dL_law_944 rfl rfl ?_
  refine z_iload_n dL_law_945 rfl rfl ?_
  refine z_iconst (v := nI 3) dL_law_946 (by decide) ?_
  refine z_iadd dL_law_947 ?_
  refine z_xald hb (e _ (by decide)) dL_law_948 ?_
  have K2 := rc_X12_account (E := (a, rP a, w1)) hG h2 w1 hw1.r
  refine z_V3l (y' := mX12_account) (r := (RX12, TX12, 89)) (Q' := fun v w' => ∃ S', rI G (a, rP a, w1) S' w' ∧ v = (f_account N S (G.2.2.2.2 (nI (2 + 7 * j) + nI 1).toNatClampNeg) (G.2.2.2.2 (nI (2 + 7 * j) + nI 2).toNatClampNeg) (G.2.2.2.2 (nI (2 + 7 * j) + nI 3).toNatClampNeg)).1 ∧ S' = (f_account N S (G.2.2.2.2 (nI (2 + 7 * j) + nI 1).toNatClampNeg) (G.2.2.2.2 (nI (2 + 7 * j) + nI 2).toNatClampNeg) (G.2.2.2.2 (nI (2 + 7 * j) + nI 3).toNatClampNeg)).2) dL_law_949 lL_116 kX12_account ⟨by decide, by decide⟩ hw1.r.1.1 rfl rfl (Nat.le_of_ble_eq_true rfl) (zC.weaken K2 (fun r w' ⟨s', g1, v, g2, g3, g4⟩ => ⟨v, g2, s', g1, g3, g4⟩)) (fun v2 w2 hq => ?_)
  obtain ⟨S2, g2, hv2, rfl⟩ := hq
  have hw2 := hw1.r' g2
  have ev : v1 = v2 := by rw [hv1, hv2]; exact h3
  subst ev
  refine z_lcmp dL_law_952 ?_
  have ez : lg_cmp v1 v1 = 0 := by simp [lg_cmp]
  rw [ez]
  refine z_if_eq (tgt := 1101) dL_law_953 (by decide) (fun _ => kk _ _ _ hw2 h4) (fun c => absurd rfl c)
set_option maxHeartbeats 4000000 in
theorem lw_sector {G : zG} {N g H T a j : Nat} {s : cS} {S : rS} {w : zS} {Rel : Nat → Nat → Nat → cS → rS → Prop} {Q : Option Value → zS → Prop} (hG : zOK G) (hb : G.2.2.2.1.2.2.1 < gN G) (hL : G.2.2.2.1.2.2.2 ≤ 3586) (hj : 2 + 7 * j + 7 ≤ G.2.2.2.1.2.2.2) (hK : pS_kind g Rel) (h : pS_sector N g Rel) (hw : pI G a s S w) (hR : Rel H T j s S) (kk : ∀ s' S' w', pI G a s' S' w' → Rel H T (j + 1) s' S' → zX G dL_law mL_law 1101 [some (.ref G.2.2.2.1.2.2.1), some (.ref g), some (.ref a), some (.int (nI (2 + 7 * j)))] [] w' Q) : zX G dL_law mL_law 958 [some (.ref G.2.2.2.1.2.2.1), some (.ref g), some (.ref a), some (.int (nI (2 + 7 * j)))] [] w Q := by
  obtain ⟨h1, h2, h3, h4⟩ := h H T j s S (G.2.2.2.2 (nI (2 + 7 * j) + nI 1).toNatClampNeg) (G.2.2.2.2 (nI (2 + 7 * j) + nI 2).toNatClampNeg) (G.2.2.2.2 (nI (2 + 7 * j) + nI 3).toNatClampNeg) (by omega) hR
  have e : ∀ k, k < 7 → vp_in (nI (2 + 7 * j) + nI k) G.2.2.2.1.2.2.2 := fun k hk => vx_in (k := 2 + 7 * j + k) (by unfold nI; rw [← Int32.ofNat_add]) (by omega) (by omega)
  refine z_aload_n dL_law_958 rfl rfl ?_
  refine z_aload_n dL_law_959 rfl rfl ?_
  refine z_iload_n dL_law_960 rfl rfl ?_
  refine z_iconst (v := nI 1) dL_law_961 (by decide) ?_
  refine z_iadd dL_law_962 ?_
  refine z_xald hb (e _ (by decide)) dL_law_963 ?_
  refine z_aload_n dL_law_964 rfl rfl ?_
  refine z_iload_n dL_law_965 rfl rfl ?_
  refine z_iconst (v := nI 2) dL_law_966 (by decide) ?_
  refine z_iadd dL_law_967 ?_
  refine z_xald hb (e _ (by decide)) dL_law_968 ?_
  refine z_aload_n dL_law_969 rfl rfl ?_
  refine z_iload_n dL_law_970 rfl rfl ?_
  refine z_iconst (v := nI 3) dL_law_971 (by decide) ?_
  refine z_iadd dL_law_972 ?_
  refine z_xald hb (e _ (by decide)) dL_law_973 ?_
  have hst := hK H T j s S hR
  have hk10 : cK s g = 10 := hst.1 9 g oQL
  have K1 := kc_X11_sector (o := pO a w) hG hst oQL h1 w hw.c
  refine z_V3l (y' := mX11_sector) (r := (RX11, TX11, 4)) (Q' := fun v w' => ∃ s', cM G (pO a w) s' w' ∧ v = (k_X11_sector N g H T s g (G.2.2.2.2 (nI (2 + 7 * j) + nI 1).toNatClampNeg) (G.2.2.2.2 (nI (2 + 7 * j) + nI 2).toNatClampNeg) (G.2.2.2.2 (nI (2 + 7 * j) + nI 3).toNatClampNeg)) ∧ s' = s) dL_law_974 lL_117 kX11_sector ⟨by decide, by decide⟩ ((hw.1 g (by rw [hk10]; decide)).trans (congrArg some (cenc_obj (ci := 9) hk10 (by decide)))) rfl rfl (Nat.le_of_ble_eq_true rfl) (zC.weaken K1 (fun r w' ⟨s', g1, v, g2, g3, g4⟩ => ⟨v, g2, s', g1, g3, g4⟩)) (fun v1 w1 hq => ?_)
  obtain ⟨s1, g1, hv1, hs1⟩ := hq
  have hs1 := hs1.symm
  subst hs1
  have hw1 := hw.c' g1
  refine z_aload_n dL_law_977 rfl rfl ?_
  refine z_aload_n dL_law_978 rfl rfl ?_
  refine z_iload_n dL_law_979 rfl rfl ?_
  refine z_iconst (v := nI 1) dL_law_980 (by decide) ?_
  refine z_iadd dL_law_981 ?_
  refine z_xald hb (e _ (by decide)) dL_law_982 ?_
  refine z_aload_n dL_law_983 rfl rfl ?_
  refine z_iload_n dL_law_984 rfl rfl ?_
  refine z_iconst (v := nI 2) dL_law_985 (by decide) ?_
  refine z_iadd dL_law_986 ?_
  refine z_xald hb (e _ (by decide)) dL_law_987 ?_
  refine z_aload_n dL_law_988 rfl rfl ?_
  refine z_iload_n dL_law_989 rfl rfl ?_
  refine z_iconst (v := nI 3) dL_law_990 (by decide) ?_
  refine z_iadd dL_law_991 ?_
  refine z_xald hb (e _ (by decide)) dL_law_992 ?_
  have K2 := rc_X12_sector (E := (a, rP a, w1)) hG h2 w1 hw1.r
  refine z_V3l (y' := mX12_sector) (r := (RX12, TX12, 89)) (Q' := fun v w' => ∃ S', rI G (a, rP a, w1) S' w' ∧ v = (f_sector N S (G.2.2.2.2 (nI (2 + 7 * j) + nI 1).toNatClampNeg) (G.2.2.2.2 (nI (2 + 7 * j) + nI 2).toNatClampNeg) (G.2.2.2.2 (nI (2 + 7 * j) + nI 3).toNatClampNeg)) ∧ S' = S) dL_law_993 lL_120 kX12_sector ⟨by decide, by decide⟩ hw1.r.1.1 rfl rfl (Nat.le_of_ble_eq_true rfl) (zC.weaken K2 (fun r w' ⟨s', g1, v, g2, g3, g4⟩ => ⟨v, g2, s', g1, g3, g4⟩)) (fun v2 w2 hq => ?_)
  obtain ⟨S2, g2, hv2, hS2⟩ := hq
  have hS2 := hS2.symm
  subst hS2
  have hw2 := hw1.r' g2
  have ev : v1 = v2 := by rw [hv1, hv2]; exact h3
  subst ev
  refine z_lcmp dL_law_996 ?_
  have ez : lg_cmp v1 v1 = 0 := by simp [lg_cmp]
  rw [ez]
  refine z_if_eq (tgt := 1101) dL_law_997 (by decide) (fun _ => kk _ _ _ hw2 h4) (fun c => absurd rfl c)
set_option maxHeartbeats 4000000 in
theorem lw_proof {G : zG} {N g H T a j : Nat} {s : cS} {S : rS} {w : zS} {Rel : Nat → Nat → Nat → cS → rS → Prop} {Q : Option Value → zS → Prop} (hG : zOK G) (hb : G.2.2.2.1.2.2.1 < gN G) (hL : G.2.2.2.1.2.2.2 ≤ 3586) (hj : 2 + 7 * j + 7 ≤ G.2.2.2.1.2.2.2) (hK : pS_kind g Rel) (h : pS_proof N g Rel) (hw : pI G a s S w) (hR : Rel H T j s S) (kk : ∀ s' S' w', pI G a s' S' w' → Rel H T (j + 1) s' S' → zX G dL_law mL_law 1101 [some (.ref G.2.2.2.1.2.2.1), some (.ref g), some (.ref a), some (.int (nI (2 + 7 * j)))] [] w' Q) : zX G dL_law mL_law 1002 [some (.ref G.2.2.2.1.2.2.1), some (.ref g), some (.ref a), some (.int (nI (2 + 7 * j)))] [] w Q := by
  obtain ⟨h1, h2, h3, h4⟩ := h H T j s S (G.2.2.2.2 (nI (2 + 7 * j) + nI 1).toNatClampNeg) (G.2.2.2.2 (nI (2 + 7 * j) + nI 2).toNatClampNeg) (G.2.2.2.2 (nI (2 + 7 * j) + nI 3).toNatClampNeg) (by omega) hR
  have e : ∀ k, k < 7 → vp_in (nI (2 + 7 * j) + nI k) G.2.2.2.1.2.2.2 := fun k hk => vx_in (k := 2 + 7 * j + k) (by unfold nI; rw [← Int32.ofNat_add]) (by omega) (by omega)
  refine z_aload_n dL_law_1002 rfl rfl ?_
  refine z_aload_n dL_law_1003 rfl rfl ?_
  refine z_iload_n dL_law_1004 rfl rfl ?_
  refine z_iconst (v := nI 1) dL_law_1005 (by decide) ?_
  refine z_iadd dL_law_1006 ?_
  refine z_xald hb (e _ (by decide)) dL_law_1007 ?_
  refine z_aload_n dL_law_1008 rfl rfl ?_
  refine z_iload_n dL_law_1009 rfl rfl ?_
  refine z_iconst (v := nI 2) dL_law_1010 (by decide) ?_
  refine z_iadd dL_law_1011 ?_
  refine z_xald hb (e _ (by decide)) dL_law_1012 ?_
  refine z_aload_n dL_law_1013 rfl rfl ?_
  refine z_iload_n dL_law_1014 rfl rfl ?_
  refine z_iconst (v := nI 3) dL_law_1015 (by decide) ?_
  refine z_iadd dL_law_1016 ?_
  refine z_xald hb (e _ (by decide)) dL_law_1017 ?_
  have hst := hK H T j s S hR
  have hk10 : cK s g = 10 := hst.1 9 g oQL
  have K1 := kc_X11_proof (o := pO a w) hG hst oQL h1 w hw.c
  refine z_V3i (y' := mX11_proof) (r := (RX11, TX11, 4)) (Q' := fun v w' => ∃ s', cM G (pO a w) s' w' ∧ v = (k_X11_proof N g H T s g (G.2.2.2.2 (nI (2 + 7 * j) + nI 1).toNatClampNeg) (G.2.2.2.2 (nI (2 + 7 * j) + nI 2).toNatClampNeg) (G.2.2.2.2 (nI (2 + 7 * j) + nI 3).toNatClampNeg)).1 ∧ s' = (k_X11_proof N g H T s g (G.2.2.2.2 (nI (2 + 7 * j) + nI 1).toNatClampNeg) (G.2.2.2.2 (nI (2 + 7 * j) + nI 2).toNatClampNeg) (G.2.2.2.2 (nI (2 + 7 * j) + nI 3).toNatClampNeg)).2) dL_law_1018 lL_121 kX11_proof ⟨by decide, by decide⟩ ((hw.1 g (by rw [hk10]; decide)).trans (congrArg some (cenc_obj (ci := 9) hk10 (by decide)))) rfl rfl (Nat.le_of_ble_eq_true rfl) (zC.weaken K1 (fun r w' ⟨s', g1, v, g2, ⟨g3, g4⟩, _⟩ => ⟨v, g2, s', g1, g3, g4⟩)) (fun v1 w1 hq => ?_)
  obtain ⟨s1, g1, hv1, rfl⟩ := hq
  have hw1 := hw.c' g1
  refine z_aload_n dL_law_1021 rfl rfl ?_
  refine z_aload_n dL_law_1022 rfl rfl ?_
  refine z_iload_n dL_law_1023 rfl rfl ?_
  refine z_iconst (v := nI 1) dL_law_1024 (by decide) ?_
  refine z_iadd dL_law_1025 ?_
  refine z_xald hb (e _ (by decide)) dL_law_1026 ?_
  refine z_aload_n dL_law_1027 rfl rfl ?_
  refine z_iload_n dL_law_1028 rfl rfl ?_
  refine z_iconst (v := nI 2) dL_law_1029 (by decide) ?_
  refine z_iadd dL_law_1030 ?_
  refine z_xald hb (e _ (by decide)) dL_law_1031 ?_
  refine z_aload_n dL_law_1032 rfl rfl ?_
  refine z_iload_n dL_law_1033 rfl rfl ?_
  refine z_iconst (v := nI 3) dL_law_1034 (by decide) ?_
  refine z_iadd dL_law_1035 ?_
  refine z_xald hb (e _ (by decide)) dL_law_1036 ?_
  have K2 := rc_X12_proof (E := (a, rP a, w1)) hG h2 w1 hw1.r
  refine z_V3i (y' := mX12_proof) (r := (RX12, TX12, 89)) (Q' := fun v w' => ∃ S', rI G (a, rP a, w1) S' w' ∧ v = (f_proof N S (G.2.2.2.2 (nI (2 + 7 * j) + nI 1).toNatClampNeg) (G.2.2.2.2 (nI (2 + 7 * j) + nI 2).toNatClampNeg) (G.2.2.2.2 (nI (2 + 7 * j) + nI 3).toNatClampNeg)).1 ∧ S' = (f_proof N S (G.2.2.2.2 (nI (2 + 7 * j) + nI 1).toNatClampNeg) (G.2.2.2.2 (nI (2 + 7 * j) + nI 2).toNatClampNeg) (G.2.2.2.2 (nI (2 + 7 * j) + nI 3).toNatClampNeg)).2) dL_law_1037 lL_124 kX12_proof ⟨by decide, by decide⟩ hw1.r.1.1 rfl rfl (Nat.le_of_ble_eq_true rfl) (zC.weaken K2 (fun r w' ⟨s', g1, v, g2, g3, g4⟩ => ⟨v, g2, s', g1, g3, g4⟩)) (fun v2 w2 hq => ?_)
  obtain ⟨S2, g2, hv2, rfl⟩ := hq
  have hw2 := hw1.r' g2
  have ev : v1 = v2 := by rw [hv1, hv2]; exact h3
  subst ev
  refine z_icmp_eq (tgt := 1101) dL_law_1040 (by decide) (fun _ => kk _ _ _ hw2 h4) (fun c => absurd rfl c)
set_option maxHeartbeats 4000000 in
theorem lw_balance {G : zG} {N g H T a j : Nat} {s : cS} {S : rS} {w : zS} {Rel : Nat → Nat → Nat → cS → rS → Prop} {Q : Option Value → zS → Prop} (hG : zOK G) (hb : G.2.2.2.1.2.2.1 < gN G) (hL : G.2.2.2.1.2.2.2 ≤ 3586) (hj : 2 + 7 * j + 7 ≤ G.2.2.2.1.2.2.2) (hK : pS_kind g Rel) (h : pS_balance N g Rel) (hw : pI G a s S w) (hR : Rel H T j s S) (kk : ∀ s' S' w', pI G a s' S' w' → Rel H T (j + 1) s' S' → zX G dL_law mL_law 1101 [some (.ref G.2.2.2.1.2.2.1), some (.ref g), some (.ref a), some (.int (nI (2 + 7 * j)))] [] w' Q) : zX G dL_law mL_law 1045 [some (.ref G.2.2.2.1.2.2.1), some (.ref g), some (.ref a), some (.int (nI (2 + 7 * j)))] [] w Q := by
  obtain ⟨h1, h2, h3, h4⟩ := h H T j s S (G.2.2.2.2 (nI (2 + 7 * j) + nI 1).toNatClampNeg) (G.2.2.2.2 (nI (2 + 7 * j) + nI 2).toNatClampNeg) (by omega) hR
  have e : ∀ k, k < 7 → vp_in (nI (2 + 7 * j) + nI k) G.2.2.2.1.2.2.2 := fun k hk => vx_in (k := 2 + 7 * j + k) (by unfold nI; rw [← Int32.ofNat_add]) (by omega) (by omega)
  refine z_aload_n dL_law_1045 rfl rfl ?_
  refine z_aload_n dL_law_1046 rfl rfl ?_
  refine z_iload_n dL_law_1047 rfl rfl ?_
  refine z_iconst (v := nI 1) dL_law_1048 (by decide) ?_
  refine z_iadd dL_law_1049 ?_
  refine z_xald hb (e _ (by decide)) dL_law_1050 ?_
  refine z_aload_n dL_law_1051 rfl rfl ?_
  refine z_iload_n dL_law_1052 rfl rfl ?_
  refine z_iconst (v := nI 2) dL_law_1053 (by decide) ?_
  refine z_iadd dL_law_1054 ?_
  refine z_xald hb (e _ (by decide)) dL_law_1055 ?_
  have hst := hK H T j s S hR
  have hk10 : cK s g = 10 := hst.1 9 g oQL
  have K1 := kc_X11_balance (o := pO a w) hG hst oQL h1 w hw.c
  refine z_V2i (y' := mX11_balance) (r := (RX11, TX11, 4)) (Q' := fun v w' => ∃ s', cM G (pO a w) s' w' ∧ v = (k_X11_balance N g H T s g (G.2.2.2.2 (nI (2 + 7 * j) + nI 1).toNatClampNeg) (G.2.2.2.2 (nI (2 + 7 * j) + nI 2).toNatClampNeg)) ∧ s' = s) dL_law_1056 lL_125 kX11_balance ⟨by decide, by decide⟩ ((hw.1 g (by rw [hk10]; decide)).trans (congrArg some (cenc_obj (ci := 9) hk10 (by decide)))) rfl rfl (Nat.le_of_ble_eq_true rfl) (zC.weaken K1 (fun r w' ⟨s', g1, v, g2, g3, g4⟩ => ⟨v, g2, s', g1, g3, g4⟩)) (fun v1 w1 hq => ?_)
  obtain ⟨s1, g1, hv1, hs1⟩ := hq
  have hs1 := hs1.symm
  subst hs1
  have hw1 := hw.c' g1
  refine z_aload_n dL_law_1059 rfl rfl ?_
  refine z_aload_n dL_law_1060 rfl rfl ?_
  refine z_iload_n dL_law_1061 rfl rfl ?_
  refine z_iconst (v := nI 1) dL_law_1062 (by decide) ?_
  refine z_iadd dL_law_1063 ?_
  refine z_xald hb (e _ (by decide)) dL_law_1064 ?_
  refine z_aload_n dL_law_1065 rfl rfl ?_
  refine z_iload_n dL_law_1066 rfl rfl ?_
  refine z_iconst (v := nI 2) dL_law_1067 (by decide) ?_
  refine z_iadd dL_law_1068 ?_
  refine z_xald hb (e _ (by decide)) dL_law_1069 ?_
  have K2 := rc_X12_balance (E := (a, rP a, w1)) hG h2 w1 hw1.r
  refine z_V2i (y' := mX12_balance) (r := (RX12, TX12, 89)) (Q' := fun v w' => ∃ S', rI G (a, rP a, w1) S' w' ∧ v = (f_balance N S (G.2.2.2.2 (nI (2 + 7 * j) + nI 1).toNatClampNeg) (G.2.2.2.2 (nI (2 + 7 * j) + nI 2).toNatClampNeg)).1 ∧ S' = (f_balance N S (G.2.2.2.2 (nI (2 + 7 * j) + nI 1).toNatClampNeg) (G.2.2.2.2 (nI (2 + 7 * j) + nI 2).toNatClampNeg)).2) dL_law_1070 lL_128 kX12_balance ⟨by decide, by decide⟩ hw1.r.1.1 rfl rfl (Nat.le_of_ble_eq_true rfl) (zC.weaken K2 (fun r w' ⟨s', g1, v, g2, g3, g4⟩ => ⟨v, g2, s', g1, g3, g4⟩)) (fun v2 w2 hq => ?_)
  obtain ⟨S2, g2, hv2, rfl⟩ := hq
  have hw2 := hw1.r' g2
  have ev : v1 = v2 := by rw [hv1, hv2]; exact h3
  subst ev
  refine z_icmp_eq (tgt := 1101) dL_law_1073 (by decide) (fun _ => kk _ _ _ hw2 h4) (fun c => absurd rfl c)
set_option maxHeartbeats 4000000 in
theorem lw_count {G : zG} {N g H T a j : Nat} {s : cS} {S : rS} {w : zS} {Rel : Nat → Nat → Nat → cS → rS → Prop} {Q : Option Value → zS → Prop} (hG : zOK G) (hb : G.2.2.2.1.2.2.1 < gN G) (hL : G.2.2.2.1.2.2.2 ≤ 3586) (hj : 2 + 7 * j + 7 ≤ G.2.2.2.1.2.2.2) (hK : pS_kind g Rel) (h : pS_count N g Rel) (hw : pI G a s S w) (hR : Rel H T j s S) (kk : ∀ s' S' w', pI G a s' S' w' → Rel H T (j + 1) s' S' → zX G dL_law mL_law 1101 [some (.ref G.2.2.2.1.2.2.1), some (.ref g), some (.ref a), some (.int (nI (2 + 7 * j)))] [] w' Q) : zX G dL_law mL_law 1078 [some (.ref G.2.2.2.1.2.2.1), some (.ref g), some (.ref a), some (.int (nI (2 + 7 * j)))] [] w Q := by
  obtain ⟨h1, h2, h3, h4⟩ := h H T j s S (G.2.2.2.2 (nI (2 + 7 * j) + nI 1).toNatClampNeg) (by omega) hR
  have e : ∀ k, k < 7 → vp_in (nI (2 + 7 * j) + nI k) G.2.2.2.1.2.2.2 := fun k hk => vx_in (k := 2 + 7 * j + k) (by unfold nI; rw [← Int32.ofNat_add]) (by omega) (by omega)
  refine z_aload_n dL_law_1078 rfl rfl ?_
  refine z_aload_n dL_law_1079 rfl rfl ?_
  refine z_iload_n dL_law_1080 rfl rfl ?_
  refine z_iconst (v := nI 1) dL_law_1081 (by decide) ?_
  refine z_iadd dL_law_1082 ?_
  refine z_xald hb (e _ (by decide)) dL_law_1083 ?_
  have hst := hK H T j s S hR
  have hk10 : cK s g = 10 := hst.1 9 g oQL
  have K1 := kc_X11_count (o := pO a w) hG hst oQL h1 w hw.c
  refine z_V1i (y' := mX11_count) (r := (RX11, TX11, 4)) (Q' := fun v w' => ∃ s', cM G (pO a w) s' w' ∧ v = (k_X11_count N g H T s g (G.2.2.2.2 (nI (2 + 7 * j) + nI 1).toNatClampNeg)) ∧ s' = s) dL_law_1084 lL_129 kX11_count ⟨by decide, by decide⟩ ((hw.1 g (by rw [hk10]; decide)).trans (congrArg some (cenc_obj (ci := 9) hk10 (by decide)))) rfl rfl (Nat.le_of_ble_eq_true rfl) (zC.weaken K1 (fun r w' ⟨s', g1, v, g2, g3, g4⟩ => ⟨v, g2, s', g1, g3, g4⟩)) (fun v1 w1 hq => ?_)
  obtain ⟨s1, g1, hv1, hs1⟩ := hq
  have hs1 := hs1.symm
  subst hs1
  have hw1 := hw.c' g1
  refine z_aload_n dL_law_1087 rfl rfl ?_
  refine z_aload_n dL_law_1088 rfl rfl ?_
  refine z_iload_n dL_law_1089 rfl rfl ?_
  refine z_iconst (v := nI 1) dL_law_1090 (by decide) ?_
  refine z_iadd dL_law_1091 ?_
  refine z_xald hb (e _ (by decide)) dL_law_1092 ?_
  have K2 := rc_X12_count (E := (a, rP a, w1)) hG h2 w1 hw1.r
  refine z_V1i (y' := mX12_count) (r := (RX12, TX12, 89)) (Q' := fun v w' => ∃ S', rI G (a, rP a, w1) S' w' ∧ v = (f_count N S (G.2.2.2.2 (nI (2 + 7 * j) + nI 1).toNatClampNeg)) ∧ S' = S) dL_law_1093 lL_132 kX12_count ⟨by decide, by decide⟩ hw1.r.1.1 rfl rfl (Nat.le_of_ble_eq_true rfl) (zC.weaken K2 (fun r w' ⟨s', g1, v, g2, g3, g4⟩ => ⟨v, g2, s', g1, g3, g4⟩)) (fun v2 w2 hq => ?_)
  obtain ⟨S2, g2, hv2, hS2⟩ := hq
  have hS2 := hS2.symm
  subst hS2
  have hw2 := hw1.r' g2
  have ev : v1 = v2 := by rw [hv1, hv2]; exact h3
  subst ev
  refine z_icmp_eq (tgt := 1101) dL_law_1096 (by decide) (fun _ => kk _ _ _ hw2 h4) (fun c => absurd rfl c)
set_option maxHeartbeats 8000000 in
theorem lw_turn {G : zG} {N g H T a j : Nat} {s : cS} {S : rS} {w : zS} {Rel : Nat → Nat → Nat → cS → rS → Prop} {Q : Option Value → zS → Prop} (hG : zOK G) (hb : G.2.2.2.1.2.2.1 < gN G) (hL : G.2.2.2.1.2.2.2 ≤ 3586) (hj : 2 + 7 * j + 7 ≤ G.2.2.2.1.2.2.2) (hA : pS_all N g Rel) (hw : pI G a s S w) (hR : Rel H T j s S) (kk : ∀ s' S' w', pI G a s' S' w' → Rel H T (j + 1) s' S' → zX G dL_law mL_law 1101 [some (.ref G.2.2.2.1.2.2.1), some (.ref g), some (.ref a), some (.int (nI (2 + 7 * j)))] [] w' Q) : zX G dL_law mL_law 47 [some (.ref G.2.2.2.1.2.2.1), some (.ref g), some (.ref a), some (.int (nI (2 + 7 * j)))] [] w Q := by
  obtain ⟨-, hK, -, hsk, p0, p1, p2, p3, p4, p5, p6, p7, p8, p9, p10, p11, p12, p13, p14, p15, p16, p17, p18, p19, p20, p21, p22, p23, p24⟩ := hA
  refine z_aload_n dL_law_47 rfl rfl ?_
  refine z_iload_n dL_law_48 rfl rfl ?_
  refine z_xald hb (vx_in (k := 2 + 7 * j) rfl (by omega) (by omega)) dL_law_49 ?_
  refine z_bipush (v := nI 31) dL_law_50 (by decide) ?_
  refine z_iand dL_law_52 ?_
  by_cases c0 : (G.2.2.2.2 (nI (2 + 7 * j)).toNatClampNeg &&& nI 31) = nI 0
  · refine z_tableIn (off := 115) (tgt := 168) dL_law_53 (by rw [c0]; decide) (by rw [c0]; decide) (by rw [c0]; rfl) (by decide) ?_
    exact lw_feed hG hb hL hj hK p0 hw hR kk
  by_cases c1 : (G.2.2.2.2 (nI (2 + 7 * j)).toNatClampNeg &&& nI 31) = nI 1
  · refine z_tableIn (off := 178) (tgt := 231) dL_law_53 (by rw [c1]; decide) (by rw [c1]; decide) (by rw [c1]; rfl) (by decide) ?_
    exact lw_lie hG hb hL hj hK p1 hw hR kk
  by_cases c2 : (G.2.2.2.2 (nI (2 + 7 * j)).toNatClampNeg &&& nI 31) = nI 2
  · refine z_tableIn (off := 221) (tgt := 274) dL_law_53 (by rw [c2]; decide) (by rw [c2]; decide) (by rw [c2]; rfl) (by decide) ?_
    exact lw_pass hG hb hL hj hK p2 hw hR kk
  by_cases c3 : (G.2.2.2.2 (nI (2 + 7 * j)).toNatClampNeg &&& nI 31) = nI 3
  · refine z_tableIn (off := 264) (tgt := 317) dL_law_53 (by rw [c3]; decide) (by rw [c3]; decide) (by rw [c3]; rfl) (by decide) ?_
    exact lw_seal hG hb hL hj hK p3 hw hR kk
  by_cases c4 : (G.2.2.2.2 (nI (2 + 7 * j)).toNatClampNeg &&& nI 31) = nI 4
  · refine z_tableIn (off := 307) (tgt := 360) dL_law_53 (by rw [c4]; decide) (by rw [c4]; decide) (by rw [c4]; rfl) (by decide) ?_
    exact lw_stamp hG hb hL hj hK p4 hw hR kk
  by_cases c5 : (G.2.2.2.2 (nI (2 + 7 * j)).toNatClampNeg &&& nI 31) = nI 5
  · refine z_tableIn (off := 350) (tgt := 403) dL_law_53 (by rw [c5]; decide) (by rw [c5]; decide) (by rw [c5]; rfl) (by decide) ?_
    exact lw_hash hG hb hL hj hK p5 hw hR kk
  by_cases c6 : (G.2.2.2.2 (nI (2 + 7 * j)).toNatClampNeg &&& nI 31) = nI 6
  · refine z_tableIn (off := 384) (tgt := 437) dL_law_53 (by rw [c6]; decide) (by rw [c6]; decide) (by rw [c6]; rfl) (by decide) ?_
    exact lw_submit hG hb hL hj hK p6 hw hR kk
  by_cases c7 : (G.2.2.2.2 (nI (2 + 7 * j)).toNatClampNeg &&& nI 31) = nI 7
  · refine z_tableIn (off := 459) (tgt := 512) dL_law_53 (by rw [c7]; decide) (by rw [c7]; decide) (by rw [c7]; rfl) (by decide) ?_
    exact lw_deliver hG hb hL hj hK p7 hw hR kk
  by_cases c8 : (G.2.2.2.2 (nI (2 + 7 * j)).toNatClampNeg &&& nI 31) = nI 8
  · refine z_tableIn (off := 482) (tgt := 535) dL_law_53 (by rw [c8]; decide) (by rw [c8]; decide) (by rw [c8]; rfl) (by decide) ?_
    exact lw_calm hG hb hL hj hK p8 hw hR kk
  by_cases c9 : (G.2.2.2.2 (nI (2 + 7 * j)).toNatClampNeg &&& nI 31) = nI 9
  · refine z_tableIn (off := 515) (tgt := 568) dL_law_53 (by rw [c9]; decide) (by rw [c9]; decide) (by rw [c9]; rfl) (by decide) ?_
    exact lw_copy hG hb hL hj hK p9 hw hR kk
  by_cases c10 : (G.2.2.2.2 (nI (2 + 7 * j)).toNatClampNeg &&& nI 31) = nI 10
  · refine z_tableIn (off := 538) (tgt := 591) dL_law_53 (by rw [c10]; decide) (by rw [c10]; decide) (by rw [c10]; rfl) (by decide) ?_
    exact lw_flying hG hb hL hj hK p10 hw hR kk
  by_cases c11 : (G.2.2.2.2 (nI (2 + 7 * j)).toNatClampNeg &&& nI 31) = nI 11
  · refine z_tableIn (off := 571) (tgt := 624) dL_law_53 (by rw [c11]; decide) (by rw [c11]; decide) (by rw [c11]; rfl) (by decide) ?_
    exact lw_bytes hG hb hL hj hK p11 hw hR kk
  by_cases c12 : (G.2.2.2.2 (nI (2 + 7 * j)).toNatClampNeg &&& nI 31) = nI 12
  · refine z_tableIn (off := 605) (tgt := 658) dL_law_53 (by rw [c12]; decide) (by rw [c12]; decide) (by rw [c12]; rfl) (by decide) ?_
    exact lw_tick hG hb hL hj hK p12 hw hR kk
  by_cases c13 : (G.2.2.2.2 (nI (2 + 7 * j)).toNatClampNeg &&& nI 31) = nI 13
  · refine z_tableIn (off := 618) (tgt := 671) dL_law_53 (by rw [c13]; decide) (by rw [c13]; decide) (by rw [c13]; rfl) (by decide) ?_
    exact lw_crash hG hb hL hj hK p13 hw hR kk
  by_cases c14 : (G.2.2.2.2 (nI (2 + 7 * j)).toNatClampNeg &&& nI 31) = nI 14
  · refine z_tableIn (off := 641) (tgt := 694) dL_law_53 (by rw [c14]; decide) (by rw [c14]; decide) (by rw [c14]; rfl) (by decide) ?_
    exact lw_cut hG hb hL hj hK p14 hw hR kk
  by_cases c15 : (G.2.2.2.2 (nI (2 + 7 * j)).toNatClampNeg &&& nI 31) = nI 15
  · refine z_tableIn (off := 674) (tgt := 727) dL_law_53 (by rw [c15]; decide) (by rw [c15]; decide) (by rw [c15]; rfl) (by decide) ?_
    exact lw_restart hG hb hL hj hK p15 hw hR kk
  by_cases c16 : (G.2.2.2.2 (nI (2 + 7 * j)).toNatClampNeg &&& nI 31) = nI 16
  · refine z_tableIn (off := 697) (tgt := 750) dL_law_53 (by rw [c16]; decide) (by rw [c16]; decide) (by rw [c16]; rfl) (by decide) ?_
    exact lw_state hG hb hL hj hK p16 hw hR kk
  by_cases c17 : (G.2.2.2.2 (nI (2 + 7 * j)).toNatClampNeg &&& nI 31) = nI 17
  · refine z_tableIn (off := 730) (tgt := 783) dL_law_53 (by rw [c17]; decide) (by rw [c17]; decide) (by rw [c17]; rfl) (by decide) ?_
    exact lw_block hG hb hL hj hK p17 hw hR kk
  by_cases c18 : (G.2.2.2.2 (nI (2 + 7 * j)).toNatClampNeg &&& nI 31) = nI 18
  · refine z_tableIn (off := 774) (tgt := 827) dL_law_53 (by rw [c18]; decide) (by rw [c18]; decide) (by rw [c18]; rfl) (by decide) ?_
    exact lw_paid hG hb hL hj hK p18 hw hR kk
  by_cases c19 : (G.2.2.2.2 (nI (2 + 7 * j)).toNatClampNeg &&& nI 31) = nI 19
  · refine z_tableIn (off := 807) (tgt := 860) dL_law_53 (by rw [c19]; decide) (by rw [c19]; decide) (by rw [c19]; rfl) (by decide) ?_
    exact lw_path_ hG hb hL hj hK p19 hw hR kk
  by_cases c20 : (G.2.2.2.2 (nI (2 + 7 * j)).toNatClampNeg &&& nI 31) = nI 20
  · refine z_tableIn (off := 861) (tgt := 914) dL_law_53 (by rw [c20]; decide) (by rw [c20]; decide) (by rw [c20]; rfl) (by decide) ?_
    exact lw_account hG hb hL hj hK p20 hw hR kk
  by_cases c21 : (G.2.2.2.2 (nI (2 + 7 * j)).toNatClampNeg &&& nI 31) = nI 21
  · refine z_tableIn (off := 905) (tgt := 958) dL_law_53 (by rw [c21]; decide) (by rw [c21]; decide) (by rw [c21]; rfl) (by decide) ?_
    exact lw_sector hG hb hL hj hK p21 hw hR kk
  by_cases c22 : (G.2.2.2.2 (nI (2 + 7 * j)).toNatClampNeg &&& nI 31) = nI 22
  · refine z_tableIn (off := 949) (tgt := 1002) dL_law_53 (by rw [c22]; decide) (by rw [c22]; decide) (by rw [c22]; rfl) (by decide) ?_
    exact lw_proof hG hb hL hj hK p22 hw hR kk
  by_cases c23 : (G.2.2.2.2 (nI (2 + 7 * j)).toNatClampNeg &&& nI 31) = nI 23
  · refine z_tableIn (off := 992) (tgt := 1045) dL_law_53 (by rw [c23]; decide) (by rw [c23]; decide) (by rw [c23]; rfl) (by decide) ?_
    exact lw_balance hG hb hL hj hK p23 hw hR kk
  by_cases c24 : (G.2.2.2.2 (nI (2 + 7 * j)).toNatClampNeg &&& nI 31) = nI 24
  · refine z_tableIn (off := 1025) (tgt := 1078) dL_law_53 (by rw [c24]; decide) (by rw [c24]; decide) (by rw [c24]; rfl) (by decide) ?_
    exact lw_count hG hb hL hj hK p24 hw hR kk
  refine z_tableOut (tgt := 1101) dL_law_53 (zsw 25 (by intro k hk; rcases (show k = 0 ∨ k = 1 ∨ k = 2 ∨ k = 3 ∨ k = 4 ∨ k = 5 ∨ k = 6 ∨ k = 7 ∨ k = 8 ∨ k = 9 ∨ k = 10 ∨ k = 11 ∨ k = 12 ∨ k = 13 ∨ k = 14 ∨ k = 15 ∨ k = 16 ∨ k = 17 ∨ k = 18 ∨ k = 19 ∨ k = 20 ∨ k = 21 ∨ k = 22 ∨ k = 23 ∨ k = 24 by omega) with rfl | rfl | rfl | rfl | rfl | rfl | rfl | rfl | rfl | rfl | rfl | rfl | rfl | rfl | rfl | rfl | rfl | rfl | rfl | rfl | rfl | rfl | rfl | rfl | rfl <;> assumption) (by decide) (by decide)) (by decide) ?_
  exact kk _ _ _ hw (hsk _ _ _ _ _ hR)
