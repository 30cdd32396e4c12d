section
/-! THE REFERENCE: blocks that can stand behind a node's chain; votes that are counted -/
/-- a block can stand behind a node's chain -/
def aVal (w : Wd) (n : Nat) (o : Option (List Nat)) : Prop := ∃ b d, o = some b ∧ wY w n 9 0 = some d ∧ (tw b 0 : Int) = wN w n 1 ∧ (∀ i, i < 32 → bg b (3 + i) = bg d i) ∧ (∀ i, i < 32 → bg b (35 + i) = bg (acR (bkN (wN w) n)) i) ∧ (bPl (bkN (wN w) n) b).2 = true
section
variable {N n F H T p : Nat} {S : rS} {w : Wd} {o : Option (List Nat)}
theorem isValid_ok (hN : 2000 ≤ N) (h : rRp F H T S w) (hn : n < H) (hp : p < 1354) (ho : oR S p o) (hw : ∀ b, o = some b → blkWf T b) : wp (o_isValid N S (nI n) (nI p)) (f_isValid N S (nI n) (nI p)) (fun z => sfr S z.2 ∧ ((aVal w n o ∧ z.1 = nI 1) ∨ (¬ aVal w n o ∧ z.1 = nI 0))) := by
  have cb := h.1.1.b
  have hK : rK S := h.co.2.2.2.2.1
  obtain ⟨a1, a2⟩ := isThere_ok (N := N) hp ho
  obtain ⟨hh, bh, k0, d, g1, g2, g3, g4, -, -, -, -, -, g10, g11, g12, -⟩ := h.k n hn
  have e44 : S.2.1 44 n = nI hh := by
    have := h.num hn 1 (by decide) (by decide)
    rw [g1, iI_n] at this
    exact this
  have k26 : ¬ aVal w n o → wp (O_isValid_26 N (nI n) (nI p) S) (F_isValid_26 N (nI n) (nI p) S) (fun z => sfr S z.2 ∧ ((aVal w n o ∧ z.1 = nI 1) ∨ (¬ aVal w n o ∧ z.1 = nI 0))) := by
    intro nv
    unfold O_isValid_26 F_isValid_26 O_isValid_27 F_isValid_27
    refine wp_seq (Q := fun z : Nat × Int32 × Int32 × Int32 × rS => z.2.2.2.1 = nI 0 ∧ z.2.2.2.2 = S) ?_ (fun z hz => ?_)
    · obtain ⟨N, rfl⟩ := exs (show 0 < N by omega)
      unfold OL_isValid_31 L_isValid_31 OB_isValid_31 B_isValid_31
      exact wp_neg (by decide) (wp_pos rfl (wp_fin trivial ⟨rfl, rfl⟩))
    · unfold OA_isValid_31 A_isValid_31 O_isValid_73 F_isValid_73
      rw [hz.1, hz.2]
      exact wp_pos rfl (wp_fin trivial ⟨sfr.refl, Or.inr ⟨nv, rfl⟩⟩)
  show wp (O_isValid_0 N (nI n) (nI p) S) (F_isValid_0 N (nI n) (nI p) S) _
  unfold O_isValid_0 F_isValid_0
  rw [a2]
  refine wp_and a1 ?_
  cases o with
  | none => exact wp_pos rfl (k26 (fun ⟨b, d, e, _⟩ => by cases e))
  | some b =>
    have hbw := hw b rfl
    have hl := hbw.len
    obtain ⟨⟨s14, hwb, hdb⟩, hok⟩ := ho
    have hB := hok.2.2
    obtain ⟨b1, b2⟩ := heightOf_ok (N := N) hp hwb (by omega) hB
    have t0 := tw_lt hB 0
    have vd : ∀ {x y}, aVal w n (some b) → some b = some x → wY w n 9 0 = some y → x = b ∧ y = d := fun _ e1 e2 => ⟨by cases e1; rfl, by rw [g10] at e2; cases e2; rfl⟩
    have vi : aVal w n (some b) ↔ (tw b 0 = hh ∧ (∀ i, i < 32 → bg b (3 + i) = bg d i) ∧ (∀ i, i < 32 → bg b (35 + i) = bg (acR (bkN (wN w) n)) i) ∧ (bPl (bkN (wN w) n) b).2 = true) := by
      constructor
      · rintro ⟨x, y, e1, e2, e3, e4, e5, e6⟩
        cases e1
        rw [g10] at e2
        cases e2
        rw [g1] at e3
        exact ⟨by omega, e4, e5, e6⟩
      · rintro ⟨e3, e4, e5, e6⟩
        exact ⟨b, d, rfl, g10, by rw [g1]; omega, e4, e5, e6⟩
    rw [n_clamp (by omega), b2, e44]
    refine wp_neg (show ¬ nI 1 = 0 by decide) (wp_and b1 (wp_and ((n_in (by omega)).2 (by omega)) (wp_ite (fun c => ?_) (fun c => ?_)))) <;> rw [n_eq' (by omega) (by omega)] at c
    rotate_left
    · exact k26 (fun q => c (vi.1 q).1)
    unfold O_isValid_27 F_isValid_27
    refine wp_seq (Q := fun z : Nat × Int32 × Int32 × Int32 × rS => ∃ x : Nat, z = (0, nI n, nI p, nI x, S) ∧ ((x = 1 ∧ ∀ i, i < 32 → bg b (3 + i) = bg d i) ∨ (x = 0 ∧ ¬ ∀ i, i < 32 → bg b (3 + i) = bg d i))) ?_ ?_
    · refine wp_loop (K := 32) (fun j (x : Nat) => (x = 1 ∧ ∀ i, i < j → bg b (3 + i) = bg d i) ∨ (x = 0 ∧ ¬ ∀ i, i < 32 → bg b (3 + i) = bg d i)) (fun q j x => OL_isValid_31 N q (nI n) (nI p) (nI x) (nI j) S) (fun q j x => L_isValid_31 N q (nI n) (nI p) (nI x) (nI j) S) (fun q j x hj hI ih => ?_) 0 N 1 (by omega) (by omega) (Or.inl ⟨rfl, fun i hi => absurd hi (by omega)⟩)
      unfold OL_isValid_31 L_isValid_31 OB_isValid_31 B_isValid_31
      by_cases e : j = 32
      · refine wp_pos (by rw [n_le' (by omega) (by omega)]; omega) ?_
        subst e
        exact wp_fin trivial ⟨x, rfl, hI⟩
      · refine wp_neg (by rw [n_le' (by omega) (by omega)]; omega) ?_
        rcases hI with ⟨rfl, hI⟩ | ⟨rfl, hI⟩
        · obtain ⟨c1, c2⟩ := byte_at (N := N) (i := 3 + j) hp hwb hl.2 (by omega)
          obtain ⟨d', l0, l1, l2⟩ := lastByte_ok (N := N) (i := j) cb.2.1 hn h.n h.c h.k (by omega)
          rw [g10] at l0
          cases l0
          have u1 := hB (3 + j)
          have u2 := g12 j
          rw [n_add, c2, l2]
          refine wp_neg (by decide) (wp_and c1 (wp_and l1 (wp_ite (fun c3 => ?_) (fun c3 => ?_)))) <;> rw [n_eq' (by omega) (by omega)] at c3
          · unfold O_isValid_66 F_isValid_66
            rw [n_add]
            refine ih 1 (Or.inl ⟨rfl, fun i hi => ?_⟩) (by omega)
            by_cases e2 : i = j
            · rw [e2]; exact c3
            · exact hI i (by omega)
          · unfold O_isValid_66 F_isValid_66
            rw [n_add]
            exact ih 0 (Or.inr ⟨rfl, fun z => c3 (z j (by omega))⟩) (by omega)
        · exact wp_pos rfl (wp_fin trivial ⟨0, rfl, Or.inr ⟨rfl, hI⟩⟩)
    rintro z ⟨x, rfl, hx⟩
    show wp (O_isValid_73 N (nI n) (nI p) (nI x) S) (F_isValid_73 N (nI n) (nI p) (nI x) S) _
    unfold O_isValid_73 F_isValid_73
    rcases hx with ⟨rfl, hx⟩ | ⟨rfl, hx⟩
    rotate_left
    · exact wp_pos rfl (wp_fin trivial ⟨sfr.refl, Or.inr ⟨fun q => hx (vi.1 q).2.1, rfl⟩⟩)
    refine wp_neg (by decide) (wp_call (reckon_ok (by omega) cb.1 cb.2.1 hn h.n h.c h.k) (fun q => ?_))
    obtain ⟨q1, q2, q3⟩ := q
    generalize f_reckon N S (nI n) = S1 at q1 q2 ⊢
    unfold O_isValid_84 F_isValid_84
    refine wp_call (accountsRoot_ok q2 q3 (hK.fr q1 (by decide) (by decide)) (by omega)) (fun q => ?_)
    obtain ⟨r1, r2⟩ := q
    generalize f_accountsRoot N S1 = S2 at r1 r2 ⊢
    have f2 : rfr [6, 7, 8, 9, 15, 16, 17, 18, 85, 86, 87] S S2 := (q1.mono (by decide)).trans (r1.mono (by decide))
    have hw2 : wB S2 p b := fun i hi => by rw [f2.l 12 (by decide)]; exact hwb i hi
    unfold O_isValid_88 F_isValid_88
    refine wp_seq (Q := fun z : Nat × Int32 × Int32 × rS => ∃ x : Nat, z = (0, nI p, nI x, S2) ∧ ((x = 1 ∧ ∀ i, i < 32 → bg b (35 + i) = bg (acR (bkN (wN w) n)) i) ∨ (x = 0 ∧ ¬ ∀ i, i < 32 → bg b (35 + i) = bg (acR (bkN (wN w) n)) i))) ?_ ?_
    · refine wp_loop (K := 32) (fun j (x : Nat) => (x = 1 ∧ ∀ i, i < j → bg b (35 + i) = bg (acR (bkN (wN w) n)) i) ∨ (x = 0 ∧ ¬ ∀ i, i < 32 → bg b (35 + i) = bg (acR (bkN (wN w) n)) i)) (fun q j x => OL_isValid_91 N q (nI p) (nI x) (nI j) S2) (fun q j x => L_isValid_91 N q (nI p) (nI x) (nI j) S2) (fun q j x hj hI ih => ?_) 0 N 1 (by omega) (by omega) (Or.inl ⟨rfl, fun i hi => absurd hi (by omega)⟩)
      unfold OL_isValid_91 L_isValid_91 OB_isValid_91 B_isValid_91
      by_cases e : j = 32
      · refine wp_pos (by rw [n_le' (by omega) (by omega)]; omega) ?_
        subst e
        exact wp_fin trivial ⟨x, rfl, hI⟩
      · refine wp_neg (by rw [n_le' (by omega) (by omega)]; omega) ?_
        rcases hI with ⟨rfl, hI⟩ | ⟨rfl, hI⟩
        · obtain ⟨c1, c2⟩ := byte_at (N := N) (i := 35 + j) hp hw2 hl.2 (by omega)
          obtain ⟨l1, l2⟩ := rootByte_ok (N := N) (k := j) r2 (by omega)
          have u1 := hB (35 + j)
          have u2 := rootP_B (acL (bkN (wN w) n) 16) j
          have u2 : bg (acR (bkN (wN w) n)) j < 256 := u2
          rw [n_add, c2, l2]
          refine wp_neg (by decide) (wp_and c1 (wp_and l1 (wp_ite (fun c3 => ?_) (fun c3 => ?_)))) <;> rw [n_eq' (by omega) (by omega)] at c3
          · unfold O_isValid_126 F_isValid_126
            rw [n_add]
            refine ih 1 (Or.inl ⟨rfl, fun i hi => ?_⟩) (by omega)
            by_cases e2 : i = j
            · rw [e2]; exact c3
            · exact hI i (by omega)
          · unfold O_isValid_126 F_isValid_126
            rw [n_add]
            exact ih 0 (Or.inr ⟨rfl, fun z => c3 (z j (by omega))⟩) (by omega)
        · exact wp_pos rfl (wp_fin trivial ⟨0, rfl, Or.inr ⟨rfl, hI⟩⟩)
    rintro z ⟨x, rfl, hx2⟩
    show wp (O_isValid_133 N (nI p) (nI x) S2) (F_isValid_133 N (nI p) (nI x) S2) _
    unfold O_isValid_133 F_isValid_133
    have s2 : sfr S S2 := f2.sf (by decide) (by decide) (by decide) (by decide)
    rcases hx2 with ⟨rfl, hx2⟩ | ⟨rfl, hx2⟩
    rotate_left
    · exact wp_pos rfl (wp_fin rfl ⟨s2, Or.inr ⟨fun q => hx2 (vi.1 q).2.2.1, rfl⟩⟩)
    refine wp_neg (by decide) (wp_call (doParts_ok hp hw2 hbw hB cb.1 (by omega) (q2.fr r1 (by decide) (by decide) (by decide)) q3) (fun q => ?_))
    obtain ⟨y1, y2, y3⟩ := q
    generalize f_doParts N S2 (nI p) = y at y1 y2 y3 ⊢
    have s3 : sfr S y.2 := s2.trans (y1.sf (by decide) (by decide) (by decide) (by decide))
    unfold O_isValid_142 F_isValid_142
    rw [y3]
    cases hb : (bPl (bkN (wN w) n) b).2 with
    | true => exact wp_neg (show ¬ nI 1 = 0 by decide) (wp_fin rfl ⟨s3, Or.inl ⟨vi.2 ⟨c, hx, hx2, hb⟩, rfl⟩⟩)
    | false => exact wp_pos rfl (wp_fin rfl ⟨s3, Or.inr ⟨fun q => (by have := (vi.1 q).2.2.2; rw [hb] at this; cases this), rfl⟩⟩)
/-- the place of a vote -/
def vq (c p r s : Nat) : Nat := 416 * c + 13 * (16 * p + r) + s
/-- votes of a kind and round that are of a sort -/
def cV (w : Wd) (n c p r : Nat) (P : List Nat → Prop) [DecidablePred P] : Nat → Nat
  | 0 => 0
  | s + 1 => cV w n c p r P s + (match wY w n 5 (vq c p r s) with | some m => if P m then 1 else 0 | none => 0)
theorem cV_le (w : Wd) (n c p r : Nat) (P : List Nat → Prop) [DecidablePred P] : ∀ s, cV w n c p r P s ≤ s
  | 0 => Nat.le_refl _
  | s + 1 => by
    have := cV_le w n c p r P s
    unfold cV
    split
    · split <;> omega
    · omega
/-- a vote for a block -/
def fV (d m : List Nat) : Prop := bg m 5 = 1 ∧ voD m = d
theorem idL_eq {a b c e a' b' c' e' : Int64} {d d' : List Nat} (h : idL a b c e d) (h' : idL a' b' c' e' d') (hl : d.length = 32) (hl' : d'.length = 32) (hB : isB d) (hB' : isB d') : (a = a' ∧ b = b' ∧ c = c' ∧ e = e') ↔ d = d' := by
  constructor
  · rintro ⟨rfl, rfl, rfl, rfl⟩
    refine by_ext (by rw [hl, hl']) (fun i hi => ?_)
    rw [hl] at hi
    obtain ⟨x1, x2, x3, x4⟩ := h (i % 8) (by omega)
    obtain ⟨y1, y2, y3, y4⟩ := h' (i % 8) (by omega)
    have l1 := hB i
    have l2 := hB' i
    rcases (show i = i % 8 ∨ i = 8 + i % 8 ∨ i = 16 + i % 8 ∨ i = 24 + i % 8 by omega) with z | z | z | z
    · rw [← z] at x1 y1
      rw [x1] at y1
      exact n_inj (by omega) (by omega) y1
    · rw [← z] at x2 y2
      rw [x2] at y2
      exact n_inj (by omega) (by omega) y2
    · rw [← z] at x3 y3
      rw [x3] at y3
      exact n_inj (by omega) (by omega) y3
    · rw [← z] at x4 y4
      rw [x4] at y4
      exact n_inj (by omega) (by omega) y4
  · rintro rfl
    exact ⟨byt_ext fun k hk => by rw [(h k hk).1, (h' k hk).1], byt_ext fun k hk => by rw [(h k hk).2.1, (h' k hk).2.1], byt_ext fun k hk => by rw [(h k hk).2.2.1, (h' k hk).2.2.1], byt_ext fun k hk => by rw [(h k hk).2.2.2, (h' k hk).2.2.2]⟩
theorem dB.id {d : List Nat} (h : dB S p d) : idL (S.2.2 13 (4 * p)) (S.2.2 13 (4 * p + 1)) (S.2.2 13 (4 * p + 2)) (S.2.2 13 (4 * p + 3)) d := fun k hk => by
  refine ⟨?_, ?_, ?_, ?_⟩
  · rw [← h k (by omega)]; exact (lby_eq (by omega) (by omega)).symm
  · rw [← h (8 + k) (by omega)]; exact (lby_eq (by omega) (by omega)).symm
  · rw [← h (16 + k) (by omega)]; exact (lby_eq (by omega) (by omega)).symm
  · rw [← h (24 + k) (by omega)]; exact (lby_eq (by omega) (by omega)).symm
theorem voD_len (m : List Nat) : (voD m).length = 32 := mkB_len _ _
theorem voD_B {m : List Nat} (h : isB m) : isB (voD m) := isB_mk fun k _ => by
  have := h (6 + k)
  split <;> omega
/-- the sort of votes that count0 asks for -/
def srt (s : Nat) (d m : List Nat) : Prop := s = 0 ∨ (s = 1 ∧ bg m 5 = 0) ∨ (s = 2 ∧ bg m 5 = 1 ∧ voD m = d)
theorem count0_ok {c r s : Nat} {d : List Nat} {x5 : Int32} [DecidablePred (srt s d)] (hN : 100 ≤ N) (h : rRp F H T S w) (hn : n < H) (hc : c ≤ 1) (hr : r < 16) (hs : s ≤ 2) (h1 : 0 ≤ wN w n 1 ∧ wN w n 1 ≤ 41) (hB : ∀ q m, q < 832 → wY w n 5 q = some m → isB m) (hd : s = 2 → x5 = nI p ∧ p < 1354 ∧ dB S p d ∧ d.length = 32 ∧ isB d) : o_count0 N S (nI c) (nI n) (nI r) (nI s) x5 ∧ f_count0 N S (nI c) (nI n) (nI r) (nI s) x5 = nI (cV w n c ((wN w n 1).toNat % 2) r (srt s d) T) := by
  have cb := h.1.1.b
  have hT : S.1 0 = nI T := h.co.2.1
  have e44 : S.2.1 44 n = nI (wN w n 1).toNat := by
    have := h.num hn 1 (by decide) (by decide)
    rw [← Int.toNat_of_nonneg h1.1, iI_n] at this
    exact this
  obtain ⟨P, hP⟩ : ∃ P, P = (wN w n 1).toNat % 2 := ⟨_, rfl⟩
  have hP2 : P < 2 := by rw [hP]; exact Nat.mod_lt _ (by decide)
  rw [← hP]
  show wp (O_count0_0 N (nI c) (nI n) (nI r) (nI s) x5 S) (F_count0_0 N (nI c) (nI n) (nI r) (nI s) x5 S) (fun v => v = nI (cV w n c P r (srt s d) T))
  unfold O_count0_0 F_count0_0
  refine wp_seq (Q := fun z : Nat × Int32 × Unit => z.2.1 = nI (cV w n c P r (srt s d) T)) ?_ (fun z hz => wp_fin trivial hz)
  refine wp_loop (K := T) (fun j (x : Nat) => x = cV w n c P r (srt s d) j) (fun q j x => OL_count0_6 N q (nI c) (nI n) (nI r) (nI s) x5 (nI x) (nI j) S) (fun q j x => L_count0_6 N q (nI c) (nI n) (nI r) (nI s) x5 (nI x) (nI j) S) (fun q j x hj hI ih => ?_) 0 N 0 (by omega) (by omega) rfl
  unfold OL_count0_6 L_count0_6 OB_count0_6 B_count0_6
  rw [hT]
  by_cases e : j = T
  · refine wp_pos (by rw [n_le' (by omega) (by omega)]; omega) ?_
    subst e
    refine wp_fin trivial ?_
    rw [hI]
  · obtain ⟨v1, v2⟩ := voteAt_ok (N := N) (S := S) (n := n) (c := c) (h := (wN w n 1).toNat) (r := r) (s := j) hc (by omega)
    rw [← hP] at v2
    have ev : 13 * (32 * n + 16 * P + r) + j + 5408 * c = vix n (vq c P r j) := by
      unfold vix vq
      split <;> omega
    have q8 : vq c P r j < 832 := by unfold vq; omega
    rw [ev] at v2
    have vlt : vix n (vq c P r j) < 10816 := by unfold vix; split <;> omega
    have hv := h.v n (vq c P r j) hn q8
    have xle := cV_le w n c P r (srt s d) j
    have go : ∀ y : Nat, y ≤ 1 → cV w n c P r (srt s d) (j + 1) = x + y → wp (O_count0_177 N (fun a b c d e f g => OL_count0_6 N q a b c d e f g S) (nI c) (nI n) (nI r) (nI s) x5 (nI x) (nI j) (nI y) S) (F_count0_177 N (fun a b c d e f g => L_count0_6 N q a b c d e f g S) (nI c) (nI n) (nI r) (nI s) x5 (nI x) (nI j) (nI y) S) (fun z : Nat × Int32 × Unit => z.2.1 = nI (cV w n c P r (srt s d) T)) := by
      intro y hy hcv
      unfold O_count0_177 F_count0_177
      rcases (show y = 0 ∨ y = 1 by omega) with rfl | rfl
      · refine wp_pos rfl ?_
        unfold O_count0_191 F_count0_191
        rw [n_add]
        exact ih x (by rw [hcv, Nat.add_zero]) (by omega)
      · refine wp_neg (by decide) ?_
        unfold O_count0_191 F_count0_191
        rw [n_add, n_add]
        exact ih (x + 1) hcv.symm (by omega)
    have step : cV w n c P r (srt s d) (j + 1) = x + (match wY w n 5 (vq c P r j) with | some m => if srt s d m then 1 else 0 | none => 0) := by
      rw [hI]
      rfl
    rw [n_clamp (by omega), e44, v2, n_clamp (by omega)]
    refine wp_neg (by rw [n_le' (by omega) (by omega)]; omega) (wp_and ((n_in (by omega)).2 (by omega)) (wp_and v1 ?_))
    cases hy : wY w n 5 (vq c P r j) with
    | none =>
      rw [hy] at hv step
      have hv : S.2.1 60 (vix n (vq c P r j)) = nI 0 := hv
      have st0 : cV w n c P r (srt s d) (j + 1) = x + 0 := step
      have k71 : wp (O_count0_71 N (fun a b c d e f g => OL_count0_6 N q a b c d e f g S) (nI c) (nI n) (nI r) (nI s) x5 (nI x) (nI j) (nI (vix n (vq c P r j))) (nI 0) S) (F_count0_71 N (fun a b c d e f g => L_count0_6 N q a b c d e f g S) (nI c) (nI n) (nI r) (nI s) x5 (nI x) (nI j) (nI (vix n (vq c P r j))) (nI 0) S) (fun z : Nat × Int32 × Unit => z.2.1 = nI (cV w n c P r (srt s d) T)) := by
        unfold O_count0_71 F_count0_71
        refine wp_ite (fun _ => ?_) (fun _ => ?_)
        · exact wp_pos rfl (go 0 (by omega) st0)
        · exact go 0 (by omega) st0
      rw [hv]
      refine wp_ite (fun c0 => ?_) (fun c0 => ?_) <;> rw [n_eq0 (by omega)] at c0
      · exact wp_and ((n_in (by omega)).2 (by omega)) (wp_pos rfl k71)
      · refine wp_and ((n_in (by omega)).2 (by omega)) (wp_neg ?_ k71)
        rw [n_eq' (by omega) (by omega)]
        omega
    | some m =>
      rw [hy] at hv step
      obtain ⟨hv1, hv2, hv3⟩ := hv
      have step : cV w n c P r (srt s d) (j + 1) = x + (if srt s d m then 1 else 0) := step
      rw [hv1]
      refine wp_ite (fun c0 => ?_) (fun c0 => ?_) <;> rw [n_eq0 (by omega)] at c0
      · refine wp_and ((n_in (by omega)).2 (by omega)) (wp_neg (by rw [n_eq0 (by omega)]; omega) ?_)
        unfold O_count0_71 F_count0_71
        exact wp_neg (by rw [n_eq' (by omega) (by omega)]; omega) (go 1 (by omega) (by rw [step, if_pos (show srt s d m from Or.inl c0)]))
      · refine wp_and ((n_in (by omega)).2 (by omega)) (wp_ite (fun c1 => ?_) (fun c1 => ?_)) <;> rw [n_eq' (by omega) (by omega)] at c1
        · unfold O_count0_71 F_count0_71
          refine wp_ite (fun c2 => ?_) (fun c2 => ?_) <;> rw [n_eq' (by omega) (by omega)] at c2
          · obtain ⟨d1, d2, d3, d4, d5⟩ := hd c2
            have ii := idL_eq hv3 d3.id (voD_len m) d4 (voD_B (hB _ m q8 hy)) d5
            rw [d1]
            simp only [n_mul, n_add]
            rw [n_clamp (by omega), n_clamp (by omega), n_clamp (by omega), n_clamp (by omega), n_clamp (by omega)]
            have no : ¬ voD m = d → wp (O_count0_174 N (fun a b c d e f g => OL_count0_6 N q a b c d e f g S) (nI c) (nI n) (nI r) (nI s) (nI p) (nI x) (nI j) S) (F_count0_174 N (fun a b c d e f g => L_count0_6 N q a b c d e f g S) (nI c) (nI n) (nI r) (nI s) (nI p) (nI x) (nI j) S) (fun z : Nat × Int32 × Unit => z.2.1 = nI (cV w n c P r (srt s d) T)) := by
              intro nd
              have := go 0 (by omega) (by rw [step, if_neg (fun z => by rcases z with z | z | z; omega; omega; exact nd z.2.2)])
              rw [d1] at this
              exact this
            refine wp_neg (by decide) (wp_and ((n_in (by omega)).2 (by omega)) (wp_and ((n_in (by omega)).2 (by omega)) (wp_ite (fun y1 => ?_) (fun y1 => ?_)))) <;> rw [lgc] at y1
            rotate_left
            · exact no (fun z => y1 (ii.2 z).1)
            refine wp_and ((n_in (by omega)).2 (by omega)) (wp_and ((n_in (by omega)).2 (by omega)) (wp_ite (fun y2 => ?_) (fun y2 => ?_))) <;> rw [lgc] at y2
            rotate_left
            · exact no (fun z => y2 (ii.2 z).2.1)
            refine wp_and ((n_in (by omega)).2 (by omega)) (wp_and ((n_in (by omega)).2 (by omega)) (wp_ite (fun y3 => ?_) (fun y3 => ?_))) <;> rw [lgc] at y3
            rotate_left
            · exact no (fun z => y3 (ii.2 z).2.2.1)
            refine wp_and ((n_in (by omega)).2 (by omega)) (wp_and ((n_in (by omega)).2 (by omega)) (wp_ite (fun y4 => ?_) (fun y4 => ?_))) <;> rw [lgc] at y4
            rotate_left
            · exact no (fun z => y4 (ii.2 z).2.2.2)
            have := go 1 (by omega) (by rw [step, if_pos (show srt s d m from Or.inr (Or.inr ⟨c2, by omega, ii.1 ⟨y1, y2, y3, y4⟩⟩))])
            rw [d1] at this
            exact this
          · exact go 1 (by omega) (by rw [step, if_pos (show srt s d m from Or.inr (Or.inl ⟨by omega, by omega⟩))])
        · unfold O_count0_71 F_count0_71
          have st0 : cV w n c P r (srt s d) (j + 1) = x + 0 := by rw [step, if_neg (fun z => by rcases z with z | z | z <;> omega)]
          refine wp_ite (fun _ => ?_) (fun _ => ?_)
          · exact wp_pos rfl (go 0 (by omega) st0)
          · exact go 0 (by omega) st0
end
end
