/-! THE REFERENCE IS MADE: its rows, one behind the other -/
def rOrd : List Nat := [6, 8, 9, 10, 11, 12, 13, 14, 15, 16, 18, 19, 21, 24, 26, 27, 28, 29, 30, 31, 32, 34, 42, 43, 44, 45, 46, 47, 48, 49, 50, 51, 52, 53, 54, 55, 56, 57, 58, 59, 60, 61, 62, 63, 64, 65, 66, 67, 68, 69, 70, 71, 73, 74, 75, 76, 77, 78, 79, 80, 81, 82, 83, 84, 85, 86, 87, 88]
def rP (a k : Nat) : Nat := a + 1 + rOrd.idxOf k
def rZ : rS := (fun _ => 0, fun _ _ => 0, fun _ _ => 0)
def rRow (G : zG) (k : Nat) : va_E := if rk k = 3 then .inl (gA G 2, rlen k, .inr (.inl fun _ => 0)) else if rk k = 2 then .inl (gA G 3, rlen k, .inl fun _ => 0) else .inl (gA G 1, rlen k, .inl fun _ => 0)
def rF1 (a m k : Nat) : Value := if rk k = 0 ∨ rk k = 4 then .int 0 else if rOrd.idxOf k < m then .ref (rP a k) else .null
def rFs (a m : Nat) : List Value := (List.range 89).map (rF1 a m)
def rO (m : Nat) : Nat := rOrd.getD m 0
def rW (G : zG) (w : zS) (a : Nat) : Nat → zS
  | 0 => w
  | m + 1 => zUp (zNew (rW G w a m) (rRow G (rO m)) (rlen (rO m))) a (.inr (10, rFs a (m + 1)))
def rSum : Nat → Nat
  | 0 => 0
  | m + 1 => rSum m + rlen (rO m)
theorem rO_idx : ∀ m, m < 68 → rOrd.idxOf (rO m) = m ∧ rO m < 89 ∧ ¬ (rk (rO m) = 0 ∨ rk (rO m) = 4) := by decide +kernel
theorem rO_inv : ∀ k, k < 89 → ¬ (rk k = 0 ∨ rk k = 4) → rO (rOrd.idxOf k) = k ∧ rOrd.idxOf k < 68 := by decide +kernel
theorem rk_le : ∀ k, k < 89 → rk k = 0 ∨ rk k = 1 ∨ rk k = 2 ∨ rk k = 3 ∨ rk k = 4 := by decide +kernel
theorem rFs_len (a m : Nat) : (rFs a m).length = 89 := by simp [rFs]
theorem rFs_set {a m : Nat} (hm : m < 68) : (rFs a m).set (rO m) (.ref (a + 1 + m)) = rFs a (m + 1) := by
  obtain ⟨h1, h2, h3⟩ := rO_idx m hm
  apply List.ext_getElem?
  intro j
  by_cases hj : j < 89
  · have e : ∀ n, (rFs a n)[j]? = some (rF1 a n j) := fun n => by simp [rFs, hj]
    rw [List.getElem?_set, e, e]
    by_cases hk : rO m = j
    · subst hk
      rw [if_pos rfl, if_pos (by rw [rFs_len]; exact h2)]
      unfold rF1
      rw [if_neg h3, h1, if_pos (by omega)]
      unfold rP
      rw [h1]
    · rw [if_neg hk]
      unfold rF1
      by_cases hs : rk j = 0 ∨ rk j = 4
      · rw [if_pos hs, if_pos hs]
      · rw [if_neg hs, if_neg hs]
        obtain ⟨g1, g2⟩ := rO_inv j hj hs
        have hne : rOrd.idxOf j ≠ m := fun e => hk (by rw [← e]; exact g1)
        by_cases hl : rOrd.idxOf j < m
        · rw [if_pos hl, if_pos (by omega)]
        · rw [if_neg hl, if_neg (by omega)]
  · rw [List.getElem?_eq_none (show ((rFs a m).set _ _).length ≤ j by rw [List.length_set, rFs_len]; omega), List.getElem?_eq_none (show (rFs a (m + 1)).length ≤ j by rw [rFs_len]; omega)]
theorem rW_n {G : zG} {w : zS} {a : Nat} (hn : w.2.1 = a + 1) : ∀ m, (rW G w a m).2.1 = a + 1 + m
  | 0 => hn
  | m + 1 => by
    show (rW G w a m).2.1 + 1 = _
    rw [rW_n hn m]
    omega
theorem rW_k {G : zG} {w : zS} {a : Nat} : ∀ m, (rW G w a m).2.2 = w.2.2 + rSum m
  | 0 => rfl
  | m + 1 => by
    show (rW G w a m).2.2 + rlen (rO m) = _
    rw [rW_k m]
    show _ = w.2.2 + (rSum m + rlen (rO m))
    omega
theorem rW_a {G : zG} {w : zS} {a : Nat} (ha : w.1 a = some (.inr (10, rFs a 0))) : ∀ m, (rW G w a m).1 a = some (.inr (10, rFs a m))
  | 0 => ha
  | m + 1 => by simp [rW, zUp]
theorem rW_row {G : zG} {w : zS} {a : Nat} (hn : w.2.1 = a + 1) : ∀ m j, j < m → (rW G w a m).1 (a + 1 + j) = some (rRow G (rO j))
  | 0, j, h => by omega
  | m + 1, j, h => by
    have e : a + 1 + j ≠ a := by omega
    show (if a + 1 + j = a then _ else (if a + 1 + j = (rW G w a m).2.1 then _ else (rW G w a m).1 (a + 1 + j))) = _
    rw [if_neg e, rW_n hn m]
    by_cases hj : j = m
    · rw [if_pos (by omega), hj]
    · rw [if_neg (by omega)]
      exact rW_row hn m j (by omega)
theorem rW_o {G : zG} {w : zS} {a : Nat} (hn : w.2.1 = a + 1) (q : Nat) (hq : q < a ∨ a + 69 ≤ q) : ∀ m, m ≤ 68 → (rW G w a m).1 q = w.1 q
  | 0, _ => rfl
  | m + 1, h => by
    show (if q = a then _ else (if q = (rW G w a m).2.1 then _ else (rW G w a m).1 q)) = _
    rw [if_neg (by omega), rW_n hn m, if_neg (by omega)]
    exact rW_o hn q hq m (by omega)
section RI
variable {G : zG} {w : zS} {a : Nat} {pc : Nat} {l : List (Option Value)} {Q : Option Value → zS → Prop}
theorem z_rowI {m i : Nat} {n : Int32} (hn0 : w.2.1 = a + 1) (ha : w.1 a = some (.inr (10, rFs a 0))) (hm : m < 68) (hk1 : rk (rO m) = 1) (hlk : Cond.fieldLink RX12 i (TX12 (rO m)).1 (TX12 (rO m)).2.1 (TX12 (rO m)).2.2.1 ∈ zT) (hfin : (TX12 (rO m)).2.2.2 = true) (hdecl : (TX12 (rO m)).1 = RX12) (hty : tyX12 (rO m) = .array .int) (hn : ¬ n < 0) (hN : n.toNatClampNeg = rlen (rO m)) (hb : rlen (rO m) * 4 ≤ 536870912) (hd1 : decode cX12_init pc = .ok (.newarray .int, 2)) (hd2 : decode cX12_init (pc + 2) = .ok (.putfield i, 3)) (kk : zX G dX12_init mX12_init (pc + 5) l [] (rW G w a (m + 1)) Q) : zX G dX12_init mX12_init pc l [.int n, .ref a] (rW G w a m) Q := by
  refine z_newa (t := 1) (ty := .int) (N := rlen (rO m)) (a0 := (rlen (rO m), .inl (fun _ => 0))) rfl rfl (fun _ h => h) arrC1 (fun _ => rfl) (fun f h j => by cases h; rfl) hd1 hn hN hb rfl ?_
  refine z_putF (ci := 10) (C := RX12) (T := TX12) (N := 89) (k := rO m) (fs := rFs a m) ⟨rfl, inT12, (rO_idx m hm).2.1, hlk⟩ ftT12 hfin rfl hdecl hd2 ?_ (by rw [hty]; rfl) (by rw [hty]; rfl) (by rw [rFs_len]; exact (rO_idx m hm).2.1) ?_
  · show (if a = (rW G w a m).2.1 then _ else (rW G w a m).1 a) = _
    rw [if_neg (by rw [rW_n hn0 m]; omega), rW_a ha m]
  · have e : zUp (zNew (rW G w a m) (.inl (gA G 1, rlen (rO m), .inl (fun _ => 0))) (rlen (rO m))) a (.inr (10, (rFs a m).set (rO m) (.ref (rW G w a m).2.1))) = rW G w a (m + 1) := by
      rw [rW_n hn0 m, rFs_set hm]
      show _ = zUp (zNew (rW G w a m) (rRow G (rO m)) (rlen (rO m))) a (.inr (10, rFs a (m + 1)))
      unfold rRow
      rw [if_neg (by omega), if_neg (by omega)]
    rw [e]
    exact kk
theorem z_rowZ {m i : Nat} {n : Int32} (hn0 : w.2.1 = a + 1) (ha : w.1 a = some (.inr (10, rFs a 0))) (hm : m < 68) (hk1 : rk (rO m) = 2) (hlk : Cond.fieldLink RX12 i (TX12 (rO m)).1 (TX12 (rO m)).2.1 (TX12 (rO m)).2.2.1 ∈ zT) (hfin : (TX12 (rO m)).2.2.2 = true) (hdecl : (TX12 (rO m)).1 = RX12) (hty : tyX12 (rO m) = .array .boolean) (hn : ¬ n < 0) (hN : n.toNatClampNeg = rlen (rO m)) (hb : rlen (rO m) * 1 ≤ 536870912) (hd1 : decode cX12_init pc = .ok (.newarray .boolean, 2)) (hd2 : decode cX12_init (pc + 2) = .ok (.putfield i, 3)) (kk : zX G dX12_init mX12_init (pc + 5) l [] (rW G w a (m + 1)) Q) : zX G dX12_init mX12_init pc l [.int n, .ref a] (rW G w a m) Q := by
  refine z_newa (t := 3) (ty := .boolean) (N := rlen (rO m)) (a0 := (rlen (rO m), .inl (fun _ => 0))) rfl rfl (fun _ h => h) arrC3 (fun _ => rfl) (fun f h j => by cases h; rfl) hd1 hn hN hb rfl ?_
  refine z_putF (ci := 10) (C := RX12) (T := TX12) (N := 89) (k := rO m) (fs := rFs a m) ⟨rfl, inT12, (rO_idx m hm).2.1, hlk⟩ ftT12 hfin rfl hdecl hd2 ?_ (by rw [hty]; rfl) (by rw [hty]; rfl) (by rw [rFs_len]; exact (rO_idx m hm).2.1) ?_
  · show (if a = (rW G w a m).2.1 then _ else (rW G w a m).1 a) = _
    rw [if_neg (by rw [rW_n hn0 m]; omega), rW_a ha m]
  · have e : zUp (zNew (rW G w a m) (.inl (gA G 3, rlen (rO m), .inl (fun _ => 0))) (rlen (rO m))) a (.inr (10, (rFs a m).set (rO m) (.ref (rW G w a m).2.1))) = rW G w a (m + 1) := by
      rw [rW_n hn0 m, rFs_set hm]
      show _ = zUp (zNew (rW G w a m) (rRow G (rO m)) (rlen (rO m))) a (.inr (10, rFs a (m + 1)))
      unfold rRow
      rw [if_neg (by omega), if_pos hk1]
    rw [e]
    exact kk
theorem z_rowL {m i : Nat} {n : Int32} (hn0 : w.2.1 = a + 1) (ha : w.1 a = some (.inr (10, rFs a 0))) (hm : m < 68) (hk1 : rk (rO m) = 3) (hlk : Cond.fieldLink RX12 i (TX12 (rO m)).1 (TX12 (rO m)).2.1 (TX12 (rO m)).2.2.1 ∈ zT) (hfin : (TX12 (rO m)).2.2.2 = true) (hdecl : (TX12 (rO m)).1 = RX12) (hty : tyX12 (rO m) = .array .long) (hn : ¬ n < 0) (hN : n.toNatClampNeg = rlen (rO m)) (hb : rlen (rO m) * 8 ≤ 536870912) (hd1 : decode cX12_init pc = .ok (.newarray .long, 2)) (hd2 : decode cX12_init (pc + 2) = .ok (.putfield i, 3)) (kk : zX G dX12_init mX12_init (pc + 5) l [] (rW G w a (m + 1)) Q) : zX G dX12_init mX12_init pc l [.int n, .ref a] (rW G w a m) Q := by
  refine z_newa (t := 2) (ty := .long) (N := rlen (rO m)) (a0 := (rlen (rO m), .inr (.inl (fun _ => 0)))) rfl rfl (fun _ h => h) arrC2 (fun _ => rfl) (fun f h j => by cases h) hd1 hn hN hb rfl ?_
  refine z_putF (ci := 10) (C := RX12) (T := TX12) (N := 89) (k := rO m) (fs := rFs a m) ⟨rfl, inT12, (rO_idx m hm).2.1, hlk⟩ ftT12 hfin rfl hdecl hd2 ?_ (by rw [hty]; rfl) (by rw [hty]; rfl) (by rw [rFs_len]; exact (rO_idx m hm).2.1) ?_
  · show (if a = (rW G w a m).2.1 then _ else (rW G w a m).1 a) = _
    rw [if_neg (by rw [rW_n hn0 m]; omega), rW_a ha m]
  · have e : zUp (zNew (rW G w a m) (.inl (gA G 2, rlen (rO m), .inr (.inl (fun _ => 0)))) (rlen (rO m))) a (.inr (10, (rFs a m).set (rO m) (.ref (rW G w a m).2.1))) = rW G w a (m + 1) := by
      rw [rW_n hn0 m, rFs_set hm]
      show _ = zUp (zNew (rW G w a m) (rRow G (rO m)) (rlen (rO m))) a (.inr (10, rFs a (m + 1)))
      unfold rRow
      rw [if_pos hk1]
    rw [e]
    exact kk
end RI
def rEo (G : zG) (w : zS) (a : Nat) : rE := (a, rP a, rW G w a 68)
theorem rFs_all (a : Nat) : rFs a 68 = rfs (rP a) rZ := by
  unfold rFs rfs
  apply List.map_congr_left
  intro k hk
  have hk := List.mem_range.mp hk
  unfold rF1 rv
  by_cases hs : rk k = 0 ∨ rk k = 4
  · rw [if_pos hs, if_pos hs]
    rfl
  · rw [if_neg hs, if_neg hs, if_pos (rO_inv k hk hs).2]
theorem rI_made {G : zG} {w : zS} {a : Nat} (hn : w.2.1 = a + 1) (ha : w.1 a = some (.inr (10, rFs a 0))) : rI G (rEo G w a) rZ (rW G w a 68) := by
  have hrow : ∀ k, k < 89 → rarr k → (rW G w a 68).1 (rP a k) = some (rRow G k) := fun k hk har => by
    have hs : ¬ (rk k = 0 ∨ rk k = 4) := by unfold rarr at har; omega
    obtain ⟨g1, g2⟩ := rO_inv k hk hs
    have := rW_row (G := G) (w := w) (a := a) hn 68 (rOrd.idxOf k) g2
    rw [g1] at this
    exact this
  refine ⟨⟨?_, fun k hk h => ?_, fun k hk h => ?_, fun k hk h => ?_, fun k hk h => ?_, fun k j hk hj har harj e => ?_⟩, rfl, fun q _ _ => rfl⟩
  · show (rW G w a 68).1 a = _
    rw [rW_a ha 68, rFs_all]
    rfl
  · show (rW G w a 68).1 (rP a k) = _
    rw [hrow k hk (Or.inl h)]
    unfold rRow
    rw [if_neg (by omega), if_neg (by omega)]
    rfl
  · show (rW G w a 68).1 (rP a k) = _
    rw [hrow k hk (Or.inr (Or.inl h))]
    unfold rRow
    rw [if_neg (by omega), if_pos h]
    rfl
  · show (rW G w a 68).1 (rP a k) = _
    rw [hrow k hk (Or.inr (Or.inr h))]
    unfold rRow
    rw [if_pos h]
    rfl
  · show rP a k ≠ a
    unfold rP
    omega
  · have e : rP a k = rP a j := e
    unfold rP at e
    have g1 := (rO_inv k hk (by unfold rarr at har; omega)).1
    have g2 := (rO_inv j hj (by unfold rarr at harj; omega)).1
    rw [← g1, ← g2]
    congr 1
    omega
theorem r_putIF {G : zG} {E : rE} {pc : Nat} {l : List (Option Value)} {st : List Value} {S : rS} {Q : Option Value → rS → Prop} {i : Nat} {v : Int32} (k : Nat) (hlk : Cond.fieldLink RX12 i (TX12 k).1 (TX12 k).2.1 (TX12 k).2.2.1 ∈ zT) (hk : k < 89) (hs : rk k = 0 ∨ rk k = 4) (hfin : (TX12 k).2.2.2 = true) (hdecl : (TX12 k).1 = RX12) (hnm : True = True) (hn : narrow (tyX12 k) (.int v) = .int v) (hfit : fits (tyX12 k) (.int v) = true) (hd : decode cX12_init pc = .ok (.putfield i, 3)) (kk : rX G E dX12_init mX12_init (pc + 3) l st (rsI S k v) Q) : rX G E dX12_init mX12_init pc l (.int v :: .ref E.1 :: st) S Q := fun w hw => z_putF (ci := 10) (C := RX12) (T := TX12) (N := 89) ⟨rfl, inT12, hk, hlk⟩ ftT12 hfin rfl hdecl hd hw.1.1 hn hfit (by rw [rfs_len]; exact hk) (kk _ (hw.sc v hk hs))
/-! the reference's maker, behind its rows -/
def F_init_788 (N : Nat)  (S : rS) : rS := S
def O_init_788 (N : Nat)  (S : rS) : Prop := True
set_option maxHeartbeats 4000000 in
theorem b_init_788 {G : zG} {E : rE} {S : rS} {N : Nat} {Q : Option Value → rS → Prop} {X : rS → Prop} (hG : zOK G) (hR : ∀ S', X S' → Q none S') (ok : O_init_788 N S) (hx : X (F_init_788 N S)) : rX G E dX12_init mX12_init 788 [none, none, none, none, none] [] S Q := by
  unfold O_init_788 at ok
  unfold F_init_788 at hx
  exact r_return rfl dX12_init_788 (hR _ hx)
def F_init_782 (N : Nat) (rec : Int32 → rS → Nat × rS) (x3 : Int32) (S : rS) : Nat × rS := (rec (x3 + nI 1) S)
def O_init_782 (N : Nat) (rok : Int32 → rS → Prop) (x3 : Int32) (S : rS) : Prop := rok (x3 + nI 1) S
set_option maxHeartbeats 4000000 in
theorem b_init_782 {G : zG} {E : rE} {S : rS} {N : Nat} {Q : Option Value → rS → Prop} {X : Nat × rS → Prop} (hG : zOK G) (hX0 : ∀ (S' : rS), X (0, S') → rX G E dX12_init mX12_init 788 [none, none, none, none, none] [] S' Q) {rec : Int32 → rS → Nat × rS} {rok : Int32 → rS → Prop} (hrec : ∀ (x3 : Int32) (S : rS), rok x3 S → X (rec x3 S) → rX G E dX12_init mX12_init 752 [some (.ref E.1), none, none, some (.int x3), none] [] S Q) {x3 : Int32} (ok : O_init_782 N rok x3 S) (hx : X (F_init_782 N rec x3 S)) : rX G E dX12_init mX12_init 782 [some (.ref E.1), none, none, some (.int x3), none] [] S Q := by
  unfold O_init_782 at ok
  unfold F_init_782 at hx
  refine r_iinc_3 (v := (x3 + nI 1)) dX12_init_782 rfl (by first | rfl | (congr 1)) (by decide) rfl ?_
  refine r_goto (tgt := 752) dX12_init_785 (by decide) ?_
  exact rX.cutz (hrec _ S ok hx) ⟨rfl, rfl, trivial⟩
def F_init_777 (N : Nat) (rec : Int32 → rS → Nat × rS) (x3 : Int32) (S : rS) : Nat × rS := (F_init_782 N rec x3 (f_rules N S x3))
def O_init_777 (N : Nat) (rok : Int32 → rS → Prop) (x3 : Int32) (S : rS) : Prop := (o_rules N S x3) ∧ O_init_782 N rok x3 (f_rules N S x3)
set_option maxHeartbeats 4000000 in
theorem b_init_777 {G : zG} {E : rE} {S : rS} {N : Nat} {Q : Option Value → rS → Prop} {X : Nat × rS → Prop} (hG : zOK G) (hX0 : ∀ (S' : rS), X (0, S') → rX G E dX12_init mX12_init 788 [none, none, none, none, none] [] S' Q) {rec : Int32 → rS → Nat × rS} {rok : Int32 → rS → Prop} (hrec : ∀ (x3 : Int32) (S : rS), rok x3 S → X (rec x3 S) → rX G E dX12_init mX12_init 752 [some (.ref E.1), none, none, some (.int x3), none] [] S Q) {x3 : Int32} (ok : O_init_777 N rok x3 S) (hx : X (F_init_777 N rec x3 S)) : rX G E dX12_init mX12_init 777 [some (.ref E.1), none, none, some (.int x3), none] [] S Q := by
  unfold O_init_777 at ok
  unfold F_init_777 at hx
  refine r_aload_n dX12_init_777 rfl rfl ?_
  refine r_iload_n dX12_init_778 rfl rfl ?_
  refine r_V1v (y' := mX12_rules) dX12_init_779 lX12_460 kX12_rules ⟨by decide, by decide⟩ rfl (Nat.le_of_ble_eq_true rfl) (rc_X12_rules hG ok.1) (fun S_779 h_779 => ?_)
  subst h_779
  have ok := ok.2
  exact rX.cutz (b_init_782 hG hX0 hrec ok hx) ⟨rfl, rfl, trivial⟩
def B_init_752 (N : Nat) (rec : Int32 → rS → Nat × rS) (x3 : Int32) (S : rS) : Nat × rS := (if (S.1 0) ≤ x3 then (0, S) else (if (f_isHonest N S x3) = 0 then (F_init_782 N rec x3 S) else (F_init_777 N rec x3 (f_begin N S x3 (nI 0)))))
def OB_init_752 (N : Nat) (rok : Int32 → rS → Prop) (x3 : Int32) (S : rS) : Prop := (((S.1 0) ≤ x3 → True) ∧ (¬ (S.1 0) ≤ x3 → (o_isHonest N S x3) ∧ (((f_isHonest N S x3) = 0 → O_init_782 N rok x3 S) ∧ (¬ (f_isHonest N S x3) = 0 → (o_begin N S x3 (nI 0)) ∧ O_init_777 N rok x3 (f_begin N S x3 (nI 0))))))
set_option maxHeartbeats 4000000 in
theorem bb_init_752 {G : zG} {E : rE} {S : rS} {N : Nat} {Q : Option Value → rS → Prop} {X : Nat × rS → Prop} (hG : zOK G) (hX0 : ∀ (S' : rS), X (0, S') → rX G E dX12_init mX12_init 788 [none, none, none, none, none] [] S' Q) {rec : Int32 → rS → Nat × rS} {rok : Int32 → rS → Prop} (hrec : ∀ (x3 : Int32) (S : rS), rok x3 S → X (rec x3 S) → rX G E dX12_init mX12_init 752 [some (.ref E.1), none, none, some (.int x3), none] [] S Q) {x3 : Int32} (ok : OB_init_752 N rok x3 S) (hx : X (B_init_752 N rec x3 S)) : rX G E dX12_init mX12_init 752 [some (.ref E.1), none, none, some (.int x3), none] [] S Q := by
  unfold OB_init_752 at ok
  unfold B_init_752 at hx
  refine r_iload_n dX12_init_752 rfl rfl ?_
  refine r_aload_n dX12_init_753 rfl rfl ?_
  refine r_getI 0 fX12_219 (by decide) (by decide) dX12_init_754 ?_
  refine r_icmp_ge (tgt := 788) dX12_init_757 (by decide) (fun c_757 => ?_) (fun c_757 => ?_)
  · have ok := ok.1 c_757
    have hx := xif_p c_757 hx
    exact rX.cutz (hX0 S hx) trivial
  · have ok := ok.2 c_757
    have hx := xif_n c_757 hx
    refine r_aload_n dX12_init_760 rfl rfl ?_
    refine r_iload_n dX12_init_761 rfl rfl ?_
    refine r_V1i (y' := mX12_isHonest) dX12_init_762 lX12_155 kX12_isHonest ⟨by decide, by decide⟩ rfl (Nat.le_of_ble_eq_true rfl) (rc_X12_isHonest hG ok.1) (fun v_762 S_762 h_762 => ?_)
    obtain ⟨rfl, hS_762⟩ := h_762
    have hS_762 := hS_762.symm
    subst hS_762
    have ok := ok.2
    refine r_if_ne (tgt := 771) dX12_init_765 (by decide) (fun c_765 => ?_) (fun c_765 => ?_)
    · have ok := ok.2 c_765
      have hx := xif_n c_765 hx
      refine r_aload_n dX12_init_771 rfl rfl ?_
      refine r_iload_n dX12_init_772 rfl rfl ?_
      refine r_iconst (v := nI 0) dX12_init_773 (by decide) ?_
      refine r_V2v (y' := mX12_begin) dX12_init_774 lX12_457 kX12_begin ⟨by decide, by decide⟩ rfl (Nat.le_of_ble_eq_true rfl) (rc_X12_begin hG ok.1) (fun S_774 h_774 => ?_)
      subst h_774
      have ok := ok.2
      exact rX.cutz (b_init_777 hG hX0 hrec ok hx) ⟨rfl, rfl, trivial⟩
    · have ok := ok.1 c_765
      have hx := xif_p c_765 hx
      refine r_goto (tgt := 782) dX12_init_768 (by decide) ?_
      exact rX.cutz (b_init_782 hG hX0 hrec ok hx) ⟨rfl, rfl, trivial⟩
def L_init_752 (N : Nat) : Nat → Int32 → rS → Nat × rS
  | 0, x3, S => (0, S)
  | n + 1, x3, S => B_init_752 N (L_init_752 N n) x3 S
def OL_init_752 (N : Nat) : Nat → Int32 → rS → Prop
  | 0, _, _ => False
  | n + 1, x3, S => OB_init_752 N (OL_init_752 N n) x3 S
set_option maxHeartbeats 4000000 in
theorem l_init_752 {G : zG} {E : rE} {N : Nat} {Q : Option Value → rS → Prop} {X : Nat × rS → Prop} (hG : zOK G) (hX0 : ∀ (S' : rS), X (0, S') → rX G E dX12_init mX12_init 788 [none, none, none, none, none] [] S' Q) : ∀ (n : Nat) (x3 : Int32) (S : rS), OL_init_752 N n x3 S → X (L_init_752 N n x3 S) → rX G E dX12_init mX12_init 752 [some (.ref E.1), none, none, some (.int x3), none] [] S Q := by
  intro n
  induction n with
  | zero => intro x3 S ok; exact absurd ok id
  | succ n ih =>
    intro x3 S ok hx
    exact bb_init_752 hG hX0 (rec := L_init_752 N n) (rok := OL_init_752 N n) (fun x3 S ok hx => ih x3 S ok hx) ok hx
def A_init_752 (N : Nat) (x3 : Int32) (S : rS) (z : Nat × rS) : rS := (F_init_788 N z.2)
def OA_init_752 (N : Nat) (x3 : Int32) (S : rS) (z : Nat × rS) : Prop := O_init_788 N z.2
set_option maxHeartbeats 4000000 in
theorem c_init_752 {G : zG} {E : rE} {S : rS} {N : Nat} {Q : Option Value → rS → Prop} {X : rS → Prop} (hG : zOK G) (hR : ∀ S', X S' → Q none S') {x3 : Int32} (ok : OL_init_752 N N x3 S ∧ OA_init_752 N x3 S (L_init_752 N N x3 S)) (hx : X (A_init_752 N x3 S (L_init_752 N N x3 S))) : rX G E dX12_init mX12_init 752 [some (.ref E.1), none, none, some (.int x3), none] [] S Q := by
  refine l_init_752 hG ?_ N x3 S ok.1 (X := fun z => OA_init_752 N x3 S z ∧ X (A_init_752 N x3 S z)) ⟨ok.2, hx⟩
  · intro S' hz
    obtain ⟨ok, hx⟩ := hz
    unfold OA_init_752 at ok
    unfold A_init_752 at hx
    exact rX.cutz (b_init_788 hG hR ok hx) trivial
def F_init_750 (N : Nat)  (S : rS) : rS := (A_init_752 N (nI 0) S (L_init_752 N N (nI 0) S))
def O_init_750 (N : Nat)  (S : rS) : Prop := (OL_init_752 N N (nI 0) S ∧ OA_init_752 N (nI 0) S (L_init_752 N N (nI 0) S))
set_option maxHeartbeats 4000000 in
theorem b_init_750 {G : zG} {E : rE} {S : rS} {N : Nat} {Q : Option Value → rS → Prop} {X : rS → Prop} (hG : zOK G) (hR : ∀ S', X S' → Q none S') (ok : O_init_750 N S) (hx : X (F_init_750 N S)) : rX G E dX12_init mX12_init 750 [some (.ref E.1), none, none, none, none] [] S Q := by
  unfold O_init_750 at ok
  unfold F_init_750 at hx
  refine r_iconst (v := nI 0) dX12_init_750 (by decide) ?_
  refine r_istore_3 dX12_init_751 (by decide) rfl ?_
  exact rX.cutz (c_init_752 hG hR ok hx) ⟨rfl, rfl, trivial⟩
def F_init_744 (N : Nat) (rec : Int32 → rS → Nat × rS) (x3 : Int32) (S : rS) : Nat × rS := (rec (x3 + nI 1) S)
def O_init_744 (N : Nat) (rok : Int32 → rS → Prop) (x3 : Int32) (S : rS) : Prop := rok (x3 + nI 1) S
set_option maxHeartbeats 4000000 in
theorem b_init_744 {G : zG} {E : rE} {S : rS} {N : Nat} {Q : Option Value → rS → Prop} {X : Nat × rS → Prop} (hG : zOK G) (hX0 : ∀ (S' : rS), X (0, S') → rX G E dX12_init mX12_init 750 [some (.ref E.1), none, none, none, none] [] S' Q) {rec : Int32 → rS → Nat × rS} {rok : Int32 → rS → Prop} (hrec : ∀ (x3 : Int32) (S : rS), rok x3 S → X (rec x3 S) → rX G E dX12_init mX12_init 672 [some (.ref E.1), none, none, some (.int x3), none] [] S Q) {x3 : Int32} (ok : O_init_744 N rok x3 S) (hx : X (F_init_744 N rec x3 S)) : rX G E dX12_init mX12_init 744 [some (.ref E.1), none, none, some (.int x3), none] [] S Q := by
  unfold O_init_744 at ok
  unfold F_init_744 at hx
  refine r_iinc_3 (v := (x3 + nI 1)) dX12_init_744 rfl (by first | rfl | (congr 1)) (by decide) rfl ?_
  refine r_goto (tgt := 672) dX12_init_747 (by decide) ?_
  exact rX.cutz (hrec _ S ok hx) ⟨rfl, rfl, trivial⟩
def F_init_739 (N : Nat) (rec : Int32 → rS → Nat × rS) (x3 : Int32) (S : rS) : Nat × rS := (F_init_744 N rec x3 (f_noTimers N S x3))
def O_init_739 (N : Nat) (rok : Int32 → rS → Prop) (x3 : Int32) (S : rS) : Prop := (o_noTimers N S x3) ∧ O_init_744 N rok x3 (f_noTimers N S x3)
set_option maxHeartbeats 4000000 in
theorem b_init_739 {G : zG} {E : rE} {S : rS} {N : Nat} {Q : Option Value → rS → Prop} {X : Nat × rS → Prop} (hG : zOK G) (hX0 : ∀ (S' : rS), X (0, S') → rX G E dX12_init mX12_init 750 [some (.ref E.1), none, none, none, none] [] S' Q) {rec : Int32 → rS → Nat × rS} {rok : Int32 → rS → Prop} (hrec : ∀ (x3 : Int32) (S : rS), rok x3 S → X (rec x3 S) → rX G E dX12_init mX12_init 672 [some (.ref E.1), none, none, some (.int x3), none] [] S Q) {x3 : Int32} (ok : O_init_739 N rok x3 S) (hx : X (F_init_739 N rec x3 S)) : rX G E dX12_init mX12_init 739 [some (.ref E.1), none, none, some (.int x3), none] [] S Q := by
  unfold O_init_739 at ok
  unfold F_init_739 at hx
  refine r_aload_n dX12_init_739 rfl rfl ?_
  refine r_iload_n dX12_init_740 rfl rfl ?_
  refine r_V1v (y' := mX12_noTimers) dX12_init_741 lX12_454 kX12_noTimers ⟨by decide, by decide⟩ rfl (Nat.le_of_ble_eq_true rfl) (rc_X12_noTimers hG ok.1) (fun S_741 h_741 => ?_)
  subst h_741
  have ok := ok.2
  exact rX.cutz (b_init_744 hG hX0 hrec ok hx) ⟨rfl, rfl, trivial⟩
def F_init_734 (N : Nat) (rec : Int32 → rS → Nat × rS) (x3 : Int32) (S : rS) : Nat × rS := (F_init_739 N rec x3 (f_unlock N S x3))
def O_init_734 (N : Nat) (rok : Int32 → rS → Prop) (x3 : Int32) (S : rS) : Prop := (o_unlock N S x3) ∧ O_init_739 N rok x3 (f_unlock N S x3)
set_option maxHeartbeats 4000000 in
theorem b_init_734 {G : zG} {E : rE} {S : rS} {N : Nat} {Q : Option Value → rS → Prop} {X : Nat × rS → Prop} (hG : zOK G) (hX0 : ∀ (S' : rS), X (0, S') → rX G E dX12_init mX12_init 750 [some (.ref E.1), none, none, none, none] [] S' Q) {rec : Int32 → rS → Nat × rS} {rok : Int32 → rS → Prop} (hrec : ∀ (x3 : Int32) (S : rS), rok x3 S → X (rec x3 S) → rX G E dX12_init mX12_init 672 [some (.ref E.1), none, none, some (.int x3), none] [] S Q) {x3 : Int32} (ok : O_init_734 N rok x3 S) (hx : X (F_init_734 N rec x3 S)) : rX G E dX12_init mX12_init 734 [some (.ref E.1), none, none, some (.int x3), none] [] S Q := by
  unfold O_init_734 at ok
  unfold F_init_734 at hx
  refine r_aload_n dX12_init_734 rfl rfl ?_
  refine r_iload_n dX12_init_735 rfl rfl ?_
  refine r_V1v (y' := mX12_unlock) dX12_init_736 lX12_451 kX12_unlock ⟨by decide, by decide⟩ rfl (Nat.le_of_ble_eq_true rfl) (rc_X12_unlock hG ok.1) (fun S_736 h_736 => ?_)
  subst h_736
  have ok := ok.2
  exact rX.cutz (b_init_739 hG hX0 hrec ok hx) ⟨rfl, rfl, trivial⟩
def B_init_706 (N : Nat) (rec : Int32 → Int32 → rS → Nat × Int32 × rS) (x3 : Int32) (x4 : Int32) (S : rS) : Nat × Int32 × rS := (if (nI 16) ≤ x4 then (0, x3, S) else (rec x3 (x4 + nI 1) (rsA S 82 (((nI 16) * x3) + x4).toNatClampNeg (nI 1000))))
def OB_init_706 (N : Nat) (rok : Int32 → Int32 → rS → Prop) (x3 : Int32) (x4 : Int32) (S : rS) : Prop := (((nI 16) ≤ x4 → True) ∧ (¬ (nI 16) ≤ x4 → (vp_in (((nI 16) * x3) + x4) 208) ∧ rok x3 (x4 + nI 1) (rsA S 82 (((nI 16) * x3) + x4).toNatClampNeg (nI 1000))))
set_option maxHeartbeats 4000000 in
theorem bb_init_706 {G : zG} {E : rE} {S : rS} {N : Nat} {Q : Option Value → rS → Prop} {X : Nat × Int32 × rS → Prop} (hG : zOK G) (hX0 : ∀ (x3 : Int32) (S' : rS), X (0, x3, S') → rX G E dX12_init mX12_init 734 [some (.ref E.1), none, none, some (.int x3), none] [] S' Q) {rec : Int32 → Int32 → rS → Nat × Int32 × rS} {rok : Int32 → Int32 → rS → Prop} (hrec : ∀ (x3 : Int32) (x4 : Int32) (S : rS), rok x3 x4 S → X (rec x3 x4 S) → rX G E dX12_init mX12_init 706 [some (.ref E.1), none, none, some (.int x3), some (.int x4)] [] S Q) {x3 : Int32} {x4 : Int32} (ok : OB_init_706 N rok x3 x4 S) (hx : X (B_init_706 N rec x3 x4 S)) : rX G E dX12_init mX12_init 706 [some (.ref E.1), none, none, some (.int x3), some (.int x4)] [] S Q := by
  unfold OB_init_706 at ok
  unfold B_init_706 at hx
  refine r_iload dX12_init_706 rfl ?_
  refine r_bipush (v := nI 16) dX12_init_708 (by decide) ?_
  refine r_icmp_ge (tgt := 734) dX12_init_710 (by decide) (fun c_710 => ?_) (fun c_710 => ?_)
  · have ok := ok.1 c_710
    have hx := xif_p c_710 hx
    exact rX.cutz (hX0 _ S hx) ⟨rfl, rfl, trivial⟩
  · have ok := ok.2 c_710
    have hx := xif_n c_710 hx
    refine r_aload_n dX12_init_713 rfl rfl ?_
    refine r_getA 82 fX12_421 (by decide) (by decide) dX12_init_714 ?_
    refine r_bipush (v := nI 16) dX12_init_717 (by decide) ?_
    refine r_iload_n dX12_init_719 rfl rfl ?_
    refine r_imul dX12_init_720 ?_
    refine r_iload dX12_init_721 rfl ?_
    refine r_iadd dX12_init_723 ?_
    refine r_sipush (v := nI 1000) dX12_init_724 (by decide) ?_
    refine r_iast hG (by decide) (by decide) dX12_init_727 ok.1 ?_
    have ok := ok.2
    refine r_iinc_4 (v := (x4 + nI 1)) dX12_init_728 rfl (by first | rfl | (congr 1)) (by decide) rfl ?_
    refine r_goto (tgt := 706) dX12_init_731 (by decide) ?_
    exact rX.cutz (hrec _ _ (rsA S 82 (((nI 16) * x3) + x4).toNatClampNeg (nI 1000)) ok hx) ⟨rfl, rfl, rfl, trivial⟩
def L_init_706 (N : Nat) : Nat → Int32 → Int32 → rS → Nat × Int32 × rS
  | 0, x3, x4, S => (0, 0, S)
  | n + 1, x3, x4, S => B_init_706 N (L_init_706 N n) x3 x4 S
def OL_init_706 (N : Nat) : Nat → Int32 → Int32 → rS → Prop
  | 0, _, _, _ => False
  | n + 1, x3, x4, S => OB_init_706 N (OL_init_706 N n) x3 x4 S
set_option maxHeartbeats 4000000 in
theorem l_init_706 {G : zG} {E : rE} {N : Nat} {Q : Option Value → rS → Prop} {X : Nat × Int32 × rS → Prop} (hG : zOK G) (hX0 : ∀ (x3 : Int32) (S' : rS), X (0, x3, S') → rX G E dX12_init mX12_init 734 [some (.ref E.1), none, none, some (.int x3), none] [] S' Q) : ∀ (n : Nat) (x3 : Int32) (x4 : Int32) (S : rS), OL_init_706 N n x3 x4 S → X (L_init_706 N n x3 x4 S) → rX G E dX12_init mX12_init 706 [some (.ref E.1), none, none, some (.int x3), some (.int x4)] [] S Q := by
  intro n
  induction n with
  | zero => intro x3 x4 S ok; exact absurd ok id
  | succ n ih =>
    intro x3 x4 S ok hx
    exact bb_init_706 hG hX0 (rec := L_init_706 N n) (rok := OL_init_706 N n) (fun x3 x4 S ok hx => ih x3 x4 S ok hx) ok hx
def A_init_706 (N : Nat) (rec : Int32 → rS → Nat × rS) (x3 : Int32) (x4 : Int32) (S : rS) (z : Nat × Int32 × rS) : Nat × rS := (F_init_734 N rec (z.2.1) z.2.2)
def OA_init_706 (N : Nat) (rok : Int32 → rS → Prop) (x3 : Int32) (x4 : Int32) (S : rS) (z : Nat × Int32 × rS) : Prop := O_init_734 N rok (z.2.1) z.2.2
set_option maxHeartbeats 4000000 in
theorem c_init_706 {G : zG} {E : rE} {S : rS} {N : Nat} {Q : Option Value → rS → Prop} {X : Nat × rS → Prop} (hG : zOK G) (hX0 : ∀ (S' : rS), X (0, S') → rX G E dX12_init mX12_init 750 [some (.ref E.1), none, none, none, none] [] S' Q) {rec : Int32 → rS → Nat × rS} {rok : Int32 → rS → Prop} (hrec : ∀ (x3 : Int32) (S : rS), rok x3 S → X (rec x3 S) → rX G E dX12_init mX12_init 672 [some (.ref E.1), none, none, some (.int x3), none] [] S Q) {x3 : Int32} {x4 : Int32} (ok : OL_init_706 N N x3 x4 S ∧ OA_init_706 N rok x3 x4 S (L_init_706 N N x3 x4 S)) (hx : X (A_init_706 N rec x3 x4 S (L_init_706 N N x3 x4 S))) : rX G E dX12_init mX12_init 706 [some (.ref E.1), none, none, some (.int x3), some (.int x4)] [] S Q := by
  refine l_init_706 hG ?_ N x3 x4 S ok.1 (X := fun z => OA_init_706 N rok x3 x4 S z ∧ X (A_init_706 N rec x3 x4 S z)) ⟨ok.2, hx⟩
  · intro x3' S' hz
    obtain ⟨ok, hx⟩ := hz
    unfold OA_init_706 at ok
    unfold A_init_706 at hx
    exact rX.cutz (b_init_734 hG hX0 hrec ok hx) ⟨rfl, rfl, trivial⟩
def F_init_696 (N : Nat) (rec : Int32 → rS → Nat × rS) (x3 : Int32) (S : rS) : Nat × rS := (A_init_706 N rec x3 (nI 0) (rsA S 80 x3.toNatClampNeg (nI 1)) (L_init_706 N N x3 (nI 0) (rsA S 80 x3.toNatClampNeg (nI 1))))
def O_init_696 (N : Nat) (rok : Int32 → rS → Prop) (x3 : Int32) (S : rS) : Prop := (vp_in x3 13) ∧ (OL_init_706 N N x3 (nI 0) (rsA S 80 x3.toNatClampNeg (nI 1)) ∧ OA_init_706 N rok x3 (nI 0) (rsA S 80 x3.toNatClampNeg (nI 1)) (L_init_706 N N x3 (nI 0) (rsA S 80 x3.toNatClampNeg (nI 1))))
set_option maxHeartbeats 4000000 in
theorem b_init_696 {G : zG} {E : rE} {S : rS} {N : Nat} {Q : Option Value → rS → Prop} {X : Nat × rS → Prop} (hG : zOK G) (hX0 : ∀ (S' : rS), X (0, S') → rX G E dX12_init mX12_init 750 [some (.ref E.1), none, none, none, none] [] S' Q) {rec : Int32 → rS → Nat × rS} {rok : Int32 → rS → Prop} (hrec : ∀ (x3 : Int32) (S : rS), rok x3 S → X (rec x3 S) → rX G E dX12_init mX12_init 672 [some (.ref E.1), none, none, some (.int x3), none] [] S Q) {x3 : Int32} (ok : O_init_696 N rok x3 S) (hx : X (F_init_696 N rec x3 S)) : rX G E dX12_init mX12_init 696 [some (.ref E.1), none, none, some (.int x3), none] [] S Q := by
  unfold O_init_696 at ok
  unfold F_init_696 at hx
  refine r_aload_n dX12_init_696 rfl rfl ?_
  refine r_getA 80 fX12_415 (by decide) (by decide) dX12_init_697 ?_
  refine r_iload_n dX12_init_700 rfl rfl ?_
  refine r_iconst (v := nI 1) dX12_init_701 (by decide) ?_
  refine r_iast hG (by decide) (by decide) dX12_init_702 ok.1 ?_
  have ok := ok.2
  refine r_iconst (v := nI 0) dX12_init_703 (by decide) ?_
  refine r_istore_4 dX12_init_704 (by decide) rfl ?_
  exact rX.cutz (c_init_706 hG hX0 hrec ok hx) ⟨rfl, rfl, rfl, trivial⟩
def B_init_672 (N : Nat) (rec : Int32 → rS → Nat × rS) (x3 : Int32) (S : rS) : Nat × rS := (if (nI 13) ≤ x3 then (0, S) else (F_init_696 N rec x3 (rsA (rsA S 43 x3.toNatClampNeg (f_isHonest N S x3)) 44 x3.toNatClampNeg (nI 1))))
def OB_init_672 (N : Nat) (rok : Int32 → rS → Prop) (x3 : Int32) (S : rS) : Prop := (((nI 13) ≤ x3 → True) ∧ (¬ (nI 13) ≤ x3 → (o_isHonest N S x3) ∧ (vp_in x3 13 ∧ narrow .boolean (.int (f_isHonest N S x3)) = .int (f_isHonest N S x3)) ∧ (vp_in x3 13) ∧ O_init_696 N rok x3 (rsA (rsA S 43 x3.toNatClampNeg (f_isHonest N S x3)) 44 x3.toNatClampNeg (nI 1))))
set_option maxHeartbeats 4000000 in
theorem bb_init_672 {G : zG} {E : rE} {S : rS} {N : Nat} {Q : Option Value → rS → Prop} {X : Nat × rS → Prop} (hG : zOK G) (hX0 : ∀ (S' : rS), X (0, S') → rX G E dX12_init mX12_init 750 [some (.ref E.1), none, none, none, none] [] S' Q) {rec : Int32 → rS → Nat × rS} {rok : Int32 → rS → Prop} (hrec : ∀ (x3 : Int32) (S : rS), rok x3 S → X (rec x3 S) → rX G E dX12_init mX12_init 672 [some (.ref E.1), none, none, some (.int x3), none] [] S Q) {x3 : Int32} (ok : OB_init_672 N rok x3 S) (hx : X (B_init_672 N rec x3 S)) : rX G E dX12_init mX12_init 672 [some (.ref E.1), none, none, some (.int x3), none] [] S Q := by
  unfold OB_init_672 at ok
  unfold B_init_672 at hx
  refine r_iload_n dX12_init_672 rfl rfl ?_
  refine r_bipush (v := nI 13) dX12_init_673 (by decide) ?_
  refine r_icmp_ge (tgt := 750) dX12_init_675 (by decide) (fun c_675 => ?_) (fun c_675 => ?_)
  · have ok := ok.1 c_675
    have hx := xif_p c_675 hx
    exact rX.cutz (hX0 S hx) ⟨rfl, trivial⟩
  · have ok := ok.2 c_675
    have hx := xif_n c_675 hx
    refine r_aload_n dX12_init_678 rfl rfl ?_
    refine r_getA 43 fX12_305 (by decide) (by decide) dX12_init_679 ?_
    refine r_iload_n dX12_init_682 rfl rfl ?_
    refine r_aload_n dX12_init_683 rfl rfl ?_
    refine r_iload_n dX12_init_684 rfl rfl ?_
    refine r_V1i (y' := mX12_isHonest) dX12_init_685 lX12_155 kX12_isHonest ⟨by decide, by decide⟩ rfl (Nat.le_of_ble_eq_true rfl) (rc_X12_isHonest hG ok.1) (fun v_685 S_685 h_685 => ?_)
    obtain ⟨rfl, hS_685⟩ := h_685
    have hS_685 := hS_685.symm
    subst hS_685
    have ok := ok.2
    refine r_zast hG ok.1.2 (by decide) (by decide) dX12_init_688 ok.1.1 ?_
    have ok := ok.2
    refine r_aload_n dX12_init_689 rfl rfl ?_
    refine r_getA 44 fX12_309 (by decide) (by decide) dX12_init_690 ?_
    refine r_iload_n dX12_init_693 rfl rfl ?_
    refine r_iconst (v := nI 1) dX12_init_694 (by decide) ?_
    refine r_iast hG (by decide) (by decide) dX12_init_695 ok.1 ?_
    have ok := ok.2
    exact rX.cutz (b_init_696 hG hX0 hrec ok hx) ⟨rfl, rfl, trivial⟩
def L_init_672 (N : Nat) : Nat → Int32 → rS → Nat × rS
  | 0, x3, S => (0, S)
  | n + 1, x3, S => B_init_672 N (L_init_672 N n) x3 S
def OL_init_672 (N : Nat) : Nat → Int32 → rS → Prop
  | 0, _, _ => False
  | n + 1, x3, S => OB_init_672 N (OL_init_672 N n) x3 S
set_option maxHeartbeats 4000000 in
theorem l_init_672 {G : zG} {E : rE} {N : Nat} {Q : Option Value → rS → Prop} {X : Nat × rS → Prop} (hG : zOK G) (hX0 : ∀ (S' : rS), X (0, S') → rX G E dX12_init mX12_init 750 [some (.ref E.1), none, none, none, none] [] S' Q) : ∀ (n : Nat) (x3 : Int32) (S : rS), OL_init_672 N n x3 S → X (L_init_672 N n x3 S) → rX G E dX12_init mX12_init 672 [some (.ref E.1), none, none, some (.int x3), none] [] S Q := by
  intro n
  induction n with
  | zero => intro x3 S ok; exact absurd ok id
  | succ n ih =>
    intro x3 S ok hx
    exact bb_init_672 hG hX0 (rec := L_init_672 N n) (rok := OL_init_672 N n) (fun x3 S ok hx => ih x3 S ok hx) ok hx
def A_init_672 (N : Nat) (x3 : Int32) (S : rS) (z : Nat × rS) : rS := (F_init_750 N z.2)
def OA_init_672 (N : Nat) (x3 : Int32) (S : rS) (z : Nat × rS) : Prop := O_init_750 N z.2
set_option maxHeartbeats 4000000 in
theorem c_init_672 {G : zG} {E : rE} {S : rS} {N : Nat} {Q : Option Value → rS → Prop} {X : rS → Prop} (hG : zOK G) (hR : ∀ S', X S' → Q none S') {x3 : Int32} (ok : OL_init_672 N N x3 S ∧ OA_init_672 N x3 S (L_init_672 N N x3 S)) (hx : X (A_init_672 N x3 S (L_init_672 N N x3 S))) : rX G E dX12_init mX12_init 672 [some (.ref E.1), none, none, some (.int x3), none] [] S Q := by
  refine l_init_672 hG ?_ N x3 S ok.1 (X := fun z => OA_init_672 N x3 S z ∧ X (A_init_672 N x3 S z)) ⟨ok.2, hx⟩
  · intro S' hz
    obtain ⟨ok, hx⟩ := hz
    unfold OA_init_672 at ok
    unfold A_init_672 at hx
    exact rX.cutz (b_init_750 hG hR ok hx) ⟨rfl, trivial⟩
def F_init_670 (N : Nat)  (S : rS) : rS := (A_init_672 N (nI 0) S (L_init_672 N N (nI 0) S))
def O_init_670 (N : Nat)  (S : rS) : Prop := (OL_init_672 N N (nI 0) S ∧ OA_init_672 N (nI 0) S (L_init_672 N N (nI 0) S))
set_option maxHeartbeats 4000000 in
theorem b_init_670 {G : zG} {E : rE} {S : rS} {N : Nat} {Q : Option Value → rS → Prop} {X : rS → Prop} (hG : zOK G) (hR : ∀ S', X S' → Q none S') (ok : O_init_670 N S) (hx : X (F_init_670 N S)) : rX G E dX12_init mX12_init 670 [some (.ref E.1), none, none, none, none] [] S Q := by
  unfold O_init_670 at ok
  unfold F_init_670 at hx
  refine r_iconst (v := nI 0) dX12_init_670 (by decide) ?_
  refine r_istore_3 dX12_init_671 (by decide) rfl ?_
  exact rX.cutz (c_init_672 hG hR ok hx) ⟨rfl, rfl, trivial⟩
def B_init_650 (N : Nat) (rec : Int32 → rS → Nat × rS) (x3 : Int32) (S : rS) : Nat × rS := (if (nI 1000) ≤ x3 then (0, S) else (rec (x3 + nI 1) (rsA S 26 x3.toNatClampNeg x3)))
def OB_init_650 (N : Nat) (rok : Int32 → rS → Prop) (x3 : Int32) (S : rS) : Prop := (((nI 1000) ≤ x3 → True) ∧ (¬ (nI 1000) ≤ x3 → (vp_in x3 1000) ∧ rok (x3 + nI 1) (rsA S 26 x3.toNatClampNeg x3)))
set_option maxHeartbeats 4000000 in
theorem bb_init_650 {G : zG} {E : rE} {S : rS} {N : Nat} {Q : Option Value → rS → Prop} {X : Nat × rS → Prop} (hG : zOK G) (hX0 : ∀ (S' : rS), X (0, S') → rX G E dX12_init mX12_init 670 [some (.ref E.1), none, none, none, none] [] S' Q) {rec : Int32 → rS → Nat × rS} {rok : Int32 → rS → Prop} (hrec : ∀ (x3 : Int32) (S : rS), rok x3 S → X (rec x3 S) → rX G E dX12_init mX12_init 650 [some (.ref E.1), none, none, some (.int x3), none] [] S Q) {x3 : Int32} (ok : OB_init_650 N rok x3 S) (hx : X (B_init_650 N rec x3 S)) : rX G E dX12_init mX12_init 650 [some (.ref E.1), none, none, some (.int x3), none] [] S Q := by
  unfold OB_init_650 at ok
  unfold B_init_650 at hx
  refine r_iload_n dX12_init_650 rfl rfl ?_
  refine r_sipush (v := nI 1000) dX12_init_651 (by decide) ?_
  refine r_icmp_ge (tgt := 670) dX12_init_654 (by decide) (fun c_654 => ?_) (fun c_654 => ?_)
  · have ok := ok.1 c_654
    have hx := xif_p c_654 hx
    exact rX.cutz (hX0 S hx) ⟨rfl, trivial⟩
  · have ok := ok.2 c_654
    have hx := xif_n c_654 hx
    refine r_aload_n dX12_init_657 rfl rfl ?_
    refine r_getA 26 fX12_210 (by decide) (by decide) dX12_init_658 ?_
    refine r_iload_n dX12_init_661 rfl rfl ?_
    refine r_iload_n dX12_init_662 rfl rfl ?_
    refine r_iast hG (by decide) (by decide) dX12_init_663 ok.1 ?_
    have ok := ok.2
    refine r_iinc_3 (v := (x3 + nI 1)) dX12_init_664 rfl (by first | rfl | (congr 1)) (by decide) rfl ?_
    refine r_goto (tgt := 650) dX12_init_667 (by decide) ?_
    exact rX.cutz (hrec _ (rsA S 26 x3.toNatClampNeg x3) ok hx) ⟨rfl, rfl, trivial⟩
def L_init_650 (N : Nat) : Nat → Int32 → rS → Nat × rS
  | 0, x3, S => (0, S)
  | n + 1, x3, S => B_init_650 N (L_init_650 N n) x3 S
def OL_init_650 (N : Nat) : Nat → Int32 → rS → Prop
  | 0, _, _ => False
  | n + 1, x3, S => OB_init_650 N (OL_init_650 N n) x3 S
set_option maxHeartbeats 4000000 in
theorem l_init_650 {G : zG} {E : rE} {N : Nat} {Q : Option Value → rS → Prop} {X : Nat × rS → Prop} (hG : zOK G) (hX0 : ∀ (S' : rS), X (0, S') → rX G E dX12_init mX12_init 670 [some (.ref E.1), none, none, none, none] [] S' Q) : ∀ (n : Nat) (x3 : Int32) (S : rS), OL_init_650 N n x3 S → X (L_init_650 N n x3 S) → rX G E dX12_init mX12_init 650 [some (.ref E.1), none, none, some (.int x3), none] [] S Q := by
  intro n
  induction n with
  | zero => intro x3 S ok; exact absurd ok id
  | succ n ih =>
    intro x3 S ok hx
    exact bb_init_650 hG hX0 (rec := L_init_650 N n) (rok := OL_init_650 N n) (fun x3 S ok hx => ih x3 S ok hx) ok hx
def A_init_650 (N : Nat) (x3 : Int32) (S : rS) (z : Nat × rS) : rS := (F_init_670 N z.2)
def OA_init_650 (N : Nat) (x3 : Int32) (S : rS) (z : Nat × rS) : Prop := O_init_670 N z.2
set_option maxHeartbeats 4000000 in
theorem c_init_650 {G : zG} {E : rE} {S : rS} {N : Nat} {Q : Option Value → rS → Prop} {X : rS → Prop} (hG : zOK G) (hR : ∀ S', X S' → Q none S') {x3 : Int32} (ok : OL_init_650 N N x3 S ∧ OA_init_650 N x3 S (L_init_650 N N x3 S)) (hx : X (A_init_650 N x3 S (L_init_650 N N x3 S))) : rX G E dX12_init mX12_init 650 [some (.ref E.1), none, none, some (.int x3), none] [] S Q := by
  refine l_init_650 hG ?_ N x3 S ok.1 (X := fun z => OA_init_650 N x3 S z ∧ X (A_init_650 N x3 S z)) ⟨ok.2, hx⟩
  · intro S' hz
    obtain ⟨ok, hx⟩ := hz
    unfold OA_init_650 at ok
    unfold A_init_650 at hx
    exact rX.cutz (b_init_670 hG hR ok hx) ⟨rfl, trivial⟩
def F_init_641 (N : Nat)  (S : rS) : rS := (A_init_650 N (nI 0) (rsI S 25 (nI 1000)) (L_init_650 N N (nI 0) (rsI S 25 (nI 1000))))
def O_init_641 (N : Nat)  (S : rS) : Prop := (OL_init_650 N N (nI 0) (rsI S 25 (nI 1000)) ∧ OA_init_650 N (nI 0) (rsI S 25 (nI 1000)) (L_init_650 N N (nI 0) (rsI S 25 (nI 1000))))
set_option maxHeartbeats 4000000 in
theorem b_init_641 {G : zG} {E : rE} {S : rS} {N : Nat} {Q : Option Value → rS → Prop} {X : rS → Prop} (hG : zOK G) (hR : ∀ S', X S' → Q none S') (ok : O_init_641 N S) (hx : X (F_init_641 N S)) : rX G E dX12_init mX12_init 641 [some (.ref E.1), none, none, none, none] [] S Q := by
  unfold O_init_641 at ok
  unfold F_init_641 at hx
  refine r_aload_n dX12_init_641 rfl rfl ?_
  refine r_sipush (v := nI 1000) dX12_init_642 (by decide) ?_
  refine r_putI 25 fX12_207 (by decide) (by decide) rfl rfl rfl dX12_init_645 ?_
  refine r_iconst (v := nI 0) dX12_init_648 (by decide) ?_
  refine r_istore_3 dX12_init_649 (by decide) rfl ?_
  exact rX.cutz (c_init_650 hG hR ok hx) ⟨rfl, rfl, trivial⟩
def F_init_634 (N : Nat) (s1 : Int32) (S : rS) : rS := (F_init_641 N (f_primes N (rsI S 2 s1)))
def O_init_634 (N : Nat) (s1 : Int32) (S : rS) : Prop := (o_primes N (rsI S 2 s1)) ∧ O_init_641 N (f_primes N (rsI S 2 s1))
set_option maxHeartbeats 4000000 in
theorem b_init_634 {G : zG} {E : rE} {S : rS} {N : Nat} {Q : Option Value → rS → Prop} {X : rS → Prop} (hG : zOK G) (hR : ∀ S', X S' → Q none S') {s1 : Int32} (ok : O_init_634 N s1 S) (hx : X (F_init_634 N s1 S)) : rX G E dX12_init mX12_init 634 [some (.ref E.1), none, none, none, none] [.int s1, .ref E.1] S Q := by
  unfold O_init_634 at ok
  unfold F_init_634 at hx
  refine r_putIF 2 fX12_445 (by decide) (by decide) rfl rfl rfl rfl rfl dX12_init_634 ?_
  refine r_aload_n dX12_init_637 rfl rfl ?_
  refine r_V0v (y' := mX12_primes) dX12_init_638 lX12_448 kX12_primes ⟨by decide, by decide⟩ rfl (Nat.le_of_ble_eq_true rfl) (rc_X12_primes hG ok.1) (fun S_638 h_638 => ?_)
  subst h_638
  have ok := ok.2
  exact rX.cutz (b_init_641 hG hR ok hx) ⟨rfl, trivial⟩
def F_init_633 (N : Nat)  (S : rS) : rS := (F_init_634 N (nI 0) S)
def O_init_633 (N : Nat)  (S : rS) : Prop := O_init_634 N (nI 0) S
set_option maxHeartbeats 4000000 in
theorem b_init_633 {G : zG} {E : rE} {S : rS} {N : Nat} {Q : Option Value → rS → Prop} {X : rS → Prop} (hG : zOK G) (hR : ∀ S', X S' → Q none S') (ok : O_init_633 N S) (hx : X (F_init_633 N S)) : rX G E dX12_init mX12_init 633 [some (.ref E.1), none, none, none, none] [.ref E.1] S Q := by
  unfold O_init_633 at ok
  unfold F_init_633 at hx
  refine r_iconst (v := nI 0) dX12_init_633 (by decide) ?_
  exact rX.cutz (b_init_634 hG hR ok hx) ⟨rfl, trivial⟩
def F_init_616 (N : Nat) (x2 : Int32) (S : rS) : rS := (if x2 < 0 then (F_init_633 N S) else (if (S.1 1) < x2 then (F_init_633 N S) else (F_init_634 N x2 S)))
def O_init_616 (N : Nat) (x2 : Int32) (S : rS) : Prop := ((x2 < 0 → O_init_633 N S) ∧ (¬ x2 < 0 → (((S.1 1) < x2 → O_init_633 N S) ∧ (¬ (S.1 1) < x2 → O_init_634 N x2 S))))
set_option maxHeartbeats 4000000 in
theorem b_init_616 {G : zG} {E : rE} {S : rS} {N : Nat} {Q : Option Value → rS → Prop} {X : rS → Prop} (hG : zOK G) (hR : ∀ S', X S' → Q none S') {x2 : Int32} (ok : O_init_616 N x2 S) (hx : X (F_init_616 N x2 S)) : rX G E dX12_init mX12_init 616 [some (.ref E.1), none, some (.int x2), none, none] [] S Q := by
  unfold O_init_616 at ok
  unfold F_init_616 at hx
  refine r_aload_n dX12_init_616 rfl rfl ?_
  refine r_iload_n dX12_init_617 rfl rfl ?_
  refine r_if_lt (tgt := 633) dX12_init_618 (by decide) (fun c_618 => ?_) (fun c_618 => ?_)
  · have ok := ok.1 c_618
    have hx := xif_p c_618 hx
    exact rX.cutz (b_init_633 hG hR ok hx) ⟨rfl, trivial⟩
  · have ok := ok.2 c_618
    have hx := xif_n c_618 hx
    refine r_iload_n dX12_init_621 rfl rfl ?_
    refine r_aload_n dX12_init_622 rfl rfl ?_
    refine r_getI 1 fX12_442 (by decide) (by decide) dX12_init_623 ?_
    refine r_icmp_gt (tgt := 633) dX12_init_626 (by decide) (fun c_626 => ?_) (fun c_626 => ?_)
    · have ok := ok.1 c_626
      have hx := xif_p c_626 hx
      exact rX.cutz (b_init_633 hG hR ok hx) ⟨rfl, trivial⟩
    · have ok := ok.2 c_626
      have hx := xif_n c_626 hx
      refine r_iload_n dX12_init_629 rfl rfl ?_
      refine r_goto (tgt := 634) dX12_init_630 (by decide) ?_
      exact rX.cutz (b_init_634 hG hR ok hx) ⟨rfl, trivial⟩
def F_init_601 (N : Nat) (x2 : Int32) (s1 : Int32) (S : rS) : rS := (F_init_616 N x2 (rsI (rsI S 1 s1) 0 (((nI 3) * ((rsI S 1 s1).1 1)) + (nI 1))))
def O_init_601 (N : Nat) (x2 : Int32) (s1 : Int32) (S : rS) : Prop := O_init_616 N x2 (rsI (rsI S 1 s1) 0 (((nI 3) * ((rsI S 1 s1).1 1)) + (nI 1)))
set_option maxHeartbeats 4000000 in
theorem b_init_601 {G : zG} {E : rE} {S : rS} {N : Nat} {Q : Option Value → rS → Prop} {X : rS → Prop} (hG : zOK G) (hR : ∀ S', X S' → Q none S') {x2 : Int32} {s1 : Int32} (ok : O_init_601 N x2 s1 S) (hx : X (F_init_601 N x2 s1 S)) : rX G E dX12_init mX12_init 601 [some (.ref E.1), none, some (.int x2), none, none] [.int s1, .ref E.1] S Q := by
  unfold O_init_601 at ok
  unfold F_init_601 at hx
  refine r_putIF 1 fX12_442 (by decide) (by decide) rfl rfl rfl rfl rfl dX12_init_601 ?_
  refine r_aload_n dX12_init_604 rfl rfl ?_
  refine r_iconst (v := nI 3) dX12_init_605 (by decide) ?_
  refine r_aload_n dX12_init_606 rfl rfl ?_
  refine r_getI 1 fX12_442 (by decide) (by decide) dX12_init_607 ?_
  refine r_imul dX12_init_610 ?_
  refine r_iconst (v := nI 1) dX12_init_611 (by decide) ?_
  refine r_iadd dX12_init_612 ?_
  refine r_putIF 0 fX12_219 (by decide) (by decide) rfl rfl rfl rfl rfl dX12_init_613 ?_
  exact rX.cutz (b_init_616 hG hR ok hx) ⟨rfl, rfl, trivial⟩
def F_init_600 (N : Nat) (x2 : Int32) (S : rS) : rS := (F_init_601 N x2 (nI 1) S)
def O_init_600 (N : Nat) (x2 : Int32) (S : rS) : Prop := O_init_601 N x2 (nI 1) S
set_option maxHeartbeats 4000000 in
theorem b_init_600 {G : zG} {E : rE} {S : rS} {N : Nat} {Q : Option Value → rS → Prop} {X : rS → Prop} (hG : zOK G) (hR : ∀ S', X S' → Q none S') {x2 : Int32} (ok : O_init_600 N x2 S) (hx : X (F_init_600 N x2 S)) : rX G E dX12_init mX12_init 600 [some (.ref E.1), none, some (.int x2), none, none] [.ref E.1] S Q := by
  unfold O_init_600 at ok
  unfold F_init_600 at hx
  refine r_iconst (v := nI 1) dX12_init_600 (by decide) ?_
  exact rX.cutz (b_init_601 hG hR ok hx) ⟨rfl, rfl, trivial⟩
def F_init_585 (N : Nat) (x1 : Int32) (x2 : Int32) (S : rS) : rS := (if x1 < (nI 1) then (F_init_600 N x2 S) else (if (nI 4) < x1 then (F_init_600 N x2 S) else (F_init_601 N x2 x1 S)))
def O_init_585 (N : Nat) (x1 : Int32) (x2 : Int32) (S : rS) : Prop := ((x1 < (nI 1) → O_init_600 N x2 S) ∧ (¬ x1 < (nI 1) → (((nI 4) < x1 → O_init_600 N x2 S) ∧ (¬ (nI 4) < x1 → O_init_601 N x2 x1 S))))
set_option maxHeartbeats 4000000 in
theorem b_init_585 {G : zG} {E : rE} {S : rS} {N : Nat} {Q : Option Value → rS → Prop} {X : rS → Prop} (hG : zOK G) (hR : ∀ S', X S' → Q none S') {x1 : Int32} {x2 : Int32} (ok : O_init_585 N x1 x2 S) (hx : X (F_init_585 N x1 x2 S)) : rX G E dX12_init mX12_init 585 [some (.ref E.1), some (.int x1), some (.int x2), none, none] [] S Q := by
  unfold O_init_585 at ok
  unfold F_init_585 at hx
  refine r_aload_n dX12_init_585 rfl rfl ?_
  refine r_iload_n dX12_init_586 rfl rfl ?_
  refine r_iconst (v := nI 1) dX12_init_587 (by decide) ?_
  refine r_icmp_lt (tgt := 600) dX12_init_588 (by decide) (fun c_588 => ?_) (fun c_588 => ?_)
  · have ok := ok.1 c_588
    have hx := xif_p c_588 hx
    exact rX.cutz (b_init_600 hG hR ok hx) ⟨rfl, rfl, trivial⟩
  · have ok := ok.2 c_588
    have hx := xif_n c_588 hx
    refine r_iload_n dX12_init_591 rfl rfl ?_
    refine r_iconst (v := nI 4) dX12_init_592 (by decide) ?_
    refine r_icmp_gt (tgt := 600) dX12_init_593 (by decide) (fun c_593 => ?_) (fun c_593 => ?_)
    · have ok := ok.1 c_593
      have hx := xif_p c_593 hx
      exact rX.cutz (b_init_600 hG hR ok hx) ⟨rfl, rfl, trivial⟩
    · have ok := ok.2 c_593
      have hx := xif_n c_593 hx
      refine r_iload_n dX12_init_596 rfl rfl ?_
      refine r_goto (tgt := 601) dX12_init_597 (by decide) ?_
      exact rX.cutz (b_init_601 hG hR ok hx) ⟨rfl, rfl, trivial⟩
def f_init (N : Nat) (x1 x2 : Int32) : rS := F_init_585 N x1 x2 rZ
def o_init (N : Nat) (x1 x2 : Int32) : Prop := O_init_585 N x1 x2 rZ
theorem objI12 : Cond.methodLink RX12 295 Lib.objectInit ∈ zT := zCh_6 (List.mem_of_getElem? (i := 220) (by decide +kernel)) rfl
set_option maxHeartbeats 8000000 in
theorem rc_X12_init {G : zG} {N : Nat} (hG : zOK G) {w : zS} {a : Nat} {x1 x2 : Int32} (hn : w.2.1 = a + 1) (ha : w.1 a = some (.inr (10, rFs a 0))) (ok : o_init N x1 x2) : zC G dX12_init mX12_init [.ref a, .int x1, .int x2] w (fun r w' => r = none ∧ rI G (rEo G w a) (f_init N x1 x2) w') := by
  refine zC.ofX rfl (Nat.le_of_ble_eq_true rfl) ?_
  show zX G dX12_init mX12_init 0 [some (.ref a), some (.int x1), some (.int x2), none, none] [] (rW G w a 0) _
  refine z_aload_n dX12_init_0 rfl rfl ?_
  refine z_objInit dX12_init_1 objI12 objI objC (by decide) (Nat.le_of_ble_eq_true rfl) ?_
  refine z_aload_n dX12_init_4 rfl rfl ?_
  refine z_sipush (v := nI 1100) dX12_init_5 (by decide) ?_
  refine z_rowI (m := 0) hn ha (by decide) (by decide) fX12_22 (by decide) (by decide) (by decide) (by decide) (by decide) (by decide) dX12_init_8 dX12_init_10 ?_
  refine z_aload_n dX12_init_13 rfl rfl ?_
  refine z_bipush (v := nI 8) dX12_init_14 (by decide) ?_
  refine z_rowI (m := 1) hn ha (by decide) (by decide) fX12_33 (by decide) (by decide) (by decide) (by decide) (by decide) (by decide) dX12_init_16 dX12_init_18 ?_
  refine z_aload_n dX12_init_21 rfl rfl ?_
  refine z_bipush (v := nI 64) dX12_init_22 (by decide) ?_
  refine z_rowI (m := 2) hn ha (by decide) (by decide) fX12_39 (by decide) (by decide) (by decide) (by decide) (by decide) (by decide) dX12_init_24 dX12_init_26 ?_
  refine z_aload_n dX12_init_29 rfl rfl ?_
  refine z_bipush (v := nI 64) dX12_init_30 (by decide) ?_
  refine z_rowI (m := 3) hn ha (by decide) (by decide) fX12_11 (by decide) (by decide) (by decide) (by decide) (by decide) (by decide) dX12_init_32 dX12_init_34 ?_
  refine z_aload_n dX12_init_37 rfl rfl ?_
  refine z_bipush (v := nI 8) dX12_init_38 (by decide) ?_
  refine z_rowI (m := 4) hn ha (by decide) (by decide) fX12_1 (by decide) (by decide) (by decide) (by decide) (by decide) (by decide) dX12_init_40 dX12_init_42 ?_
  refine z_aload_n dX12_init_45 rfl rfl ?_
  refine z_ldcw dX12_init_46 nX12_300 ?_
  refine z_rowL (m := 5) hn ha (by decide) (by decide) fX12_45 (by decide) (by decide) (by decide) (by decide) (by decide) (by decide) dX12_init_49 dX12_init_51 ?_
  refine z_aload_n dX12_init_54 rfl rfl ?_
  refine z_sipush (v := nI 5416) dX12_init_55 (by decide) ?_
  refine z_rowL (m := 6) hn ha (by decide) (by decide) fX12_60 (by decide) (by decide) (by decide) (by decide) (by decide) (by decide) dX12_init_58 dX12_init_60 ?_
  refine z_aload_n dX12_init_63 rfl rfl ?_
  refine z_sipush (v := nI 1354) dX12_init_64 (by decide) ?_
  refine z_rowI (m := 7) hn ha (by decide) (by decide) fX12_57 (by decide) (by decide) (by decide) (by decide) (by decide) (by decide) dX12_init_67 dX12_init_69 ?_
  refine z_aload_n dX12_init_72 rfl rfl ?_
  refine z_sipush (v := nI 600) dX12_init_73 (by decide) ?_
  refine z_rowI (m := 8) hn ha (by decide) (by decide) fX12_84 (by decide) (by decide) (by decide) (by decide) (by decide) (by decide) dX12_init_76 dX12_init_78 ?_
  refine z_aload_n dX12_init_81 rfl rfl ?_
  refine z_bipush (v := nI 68) dX12_init_82 (by decide) ?_
  refine z_rowI (m := 9) hn ha (by decide) (by decide) fX12_81 (by decide) (by decide) (by decide) (by decide) (by decide) (by decide) dX12_init_84 dX12_init_86 ?_
  refine z_aload_n dX12_init_89 rfl rfl ?_
  refine z_sipush (v := nI 272) dX12_init_90 (by decide) ?_
  refine z_rowL (m := 10) hn ha (by decide) (by decide) fX12_87 (by decide) (by decide) (by decide) (by decide) (by decide) (by decide) dX12_init_93 dX12_init_95 ?_
  refine z_aload_n dX12_init_98 rfl rfl ?_
  refine z_sipush (v := nI 260) dX12_init_99 (by decide) ?_
  refine z_rowI (m := 11) hn ha (by decide) (by decide) fX12_103 (by decide) (by decide) (by decide) (by decide) (by decide) (by decide) dX12_init_102 dX12_init_104 ?_
  refine z_aload_n dX12_init_107 rfl rfl ?_
  refine z_sipush (v := nI 1000) dX12_init_108 (by decide) ?_
  refine z_rowI (m := 12) hn ha (by decide) (by decide) fX12_130 (by decide) (by decide) (by decide) (by decide) (by decide) (by decide) dX12_init_111 dX12_init_113 ?_
  refine z_aload_n dX12_init_116 rfl rfl ?_
  refine z_sipush (v := nI 1000) dX12_init_117 (by decide) ?_
  refine z_rowI (m := 13) hn ha (by decide) (by decide) fX12_176 (by decide) (by decide) (by decide) (by decide) (by decide) (by decide) dX12_init_120 dX12_init_122 ?_
  refine z_aload_n dX12_init_125 rfl rfl ?_
  refine z_sipush (v := nI 1000) dX12_init_126 (by decide) ?_
  refine z_rowI (m := 14) hn ha (by decide) (by decide) fX12_210 (by decide) (by decide) (by decide) (by decide) (by decide) (by decide) dX12_init_129 dX12_init_131 ?_
  refine z_aload_n dX12_init_134 rfl rfl ?_
  refine z_sipush (v := nI 1000) dX12_init_135 (by decide) ?_
  refine z_rowI (m := 15) hn ha (by decide) (by decide) fX12_195 (by decide) (by decide) (by decide) (by decide) (by decide) (by decide) dX12_init_138 dX12_init_140 ?_
  refine z_aload_n dX12_init_143 rfl rfl ?_
  refine z_sipush (v := nI 1000) dX12_init_144 (by decide) ?_
  refine z_rowI (m := 16) hn ha (by decide) (by decide) fX12_198 (by decide) (by decide) (by decide) (by decide) (by decide) (by decide) dX12_init_147 dX12_init_149 ?_
  refine z_aload_n dX12_init_152 rfl rfl ?_
  refine z_sipush (v := nI 1000) dX12_init_153 (by decide) ?_
  refine z_rowI (m := 17) hn ha (by decide) (by decide) fX12_173 (by decide) (by decide) (by decide) (by decide) (by decide) (by decide) dX12_init_156 dX12_init_158 ?_
  refine z_aload_n dX12_init_161 rfl rfl ?_
  refine z_sipush (v := nI 1000) dX12_init_162 (by decide) ?_
  refine z_rowI (m := 18) hn ha (by decide) (by decide) fX12_213 (by decide) (by decide) (by decide) (by decide) (by decide) (by decide) dX12_init_165 dX12_init_167 ?_
  refine z_aload_n dX12_init_170 rfl rfl ?_
  refine z_ldcw dX12_init_171 nX12_301 ?_
  refine z_rowL (m := 19) hn ha (by decide) (by decide) fX12_179 (by decide) (by decide) (by decide) (by decide) (by decide) (by decide) dX12_init_174 dX12_init_176 ?_
  refine z_aload_n dX12_init_179 rfl rfl ?_
  refine z_sipush (v := nI 1010) dX12_init_180 (by decide) ?_
  refine z_rowI (m := 20) hn ha (by decide) (by decide) fX12_204 (by decide) (by decide) (by decide) (by decide) (by decide) (by decide) dX12_init_183 dX12_init_185 ?_
  refine z_aload_n dX12_init_188 rfl rfl ?_
  refine z_sipush (v := nI 1010) dX12_init_189 (by decide) ?_
  refine z_rowI (m := 21) hn ha (by decide) (by decide) fX12_302 (by decide) (by decide) (by decide) (by decide) (by decide) (by decide) dX12_init_192 dX12_init_194 ?_
  refine z_aload_n dX12_init_197 rfl rfl ?_
  refine z_iconst (v := nI 4) dX12_init_198 (by decide) ?_
  refine z_rowL (m := 22) hn ha (by decide) (by decide) fX12_270 (by decide) (by decide) (by decide) (by decide) (by decide) (by decide) dX12_init_199 dX12_init_201 ?_
  refine z_aload_n dX12_init_204 rfl rfl ?_
  refine z_bipush (v := nI 13) dX12_init_205 (by decide) ?_
  refine z_rowZ (m := 23) hn ha (by decide) (by decide) fX12_305 (by decide) (by decide) (by decide) (by decide) (by decide) (by decide) dX12_init_207 dX12_init_209 ?_
  refine z_aload_n dX12_init_212 rfl rfl ?_
  refine z_bipush (v := nI 13) dX12_init_213 (by decide) ?_
  refine z_rowI (m := 24) hn ha (by decide) (by decide) fX12_309 (by decide) (by decide) (by decide) (by decide) (by decide) (by decide) dX12_init_215 dX12_init_217 ?_
  refine z_aload_n dX12_init_220 rfl rfl ?_
  refine z_bipush (v := nI 13) dX12_init_221 (by decide) ?_
  refine z_rowI (m := 25) hn ha (by decide) (by decide) fX12_312 (by decide) (by decide) (by decide) (by decide) (by decide) (by decide) dX12_init_223 dX12_init_225 ?_
  refine z_aload_n dX12_init_228 rfl rfl ?_
  refine z_bipush (v := nI 13) dX12_init_229 (by decide) ?_
  refine z_rowI (m := 26) hn ha (by decide) (by decide) fX12_315 (by decide) (by decide) (by decide) (by decide) (by decide) (by decide) dX12_init_231 dX12_init_233 ?_
  refine z_aload_n dX12_init_236 rfl rfl ?_
  refine z_bipush (v := nI 13) dX12_init_237 (by decide) ?_
  refine z_rowI (m := 27) hn ha (by decide) (by decide) fX12_318 (by decide) (by decide) (by decide) (by decide) (by decide) (by decide) dX12_init_239 dX12_init_241 ?_
  refine z_aload_n dX12_init_244 rfl rfl ?_
  refine z_bipush (v := nI 13) dX12_init_245 (by decide) ?_
  refine z_rowI (m := 28) hn ha (by decide) (by decide) fX12_321 (by decide) (by decide) (by decide) (by decide) (by decide) (by decide) dX12_init_247 dX12_init_249 ?_
  refine z_aload_n dX12_init_252 rfl rfl ?_
  refine z_bipush (v := nI 13) dX12_init_253 (by decide) ?_
  refine z_rowZ (m := 29) hn ha (by decide) (by decide) fX12_324 (by decide) (by decide) (by decide) (by decide) (by decide) (by decide) dX12_init_255 dX12_init_257 ?_
  refine z_aload_n dX12_init_260 rfl rfl ?_
  refine z_bipush (v := nI 13) dX12_init_261 (by decide) ?_
  refine z_rowZ (m := 30) hn ha (by decide) (by decide) fX12_327 (by decide) (by decide) (by decide) (by decide) (by decide) (by decide) dX12_init_263 dX12_init_265 ?_
  refine z_aload_n dX12_init_268 rfl rfl ?_
  refine z_bipush (v := nI 13) dX12_init_269 (by decide) ?_
  refine z_rowZ (m := 31) hn ha (by decide) (by decide) fX12_330 (by decide) (by decide) (by decide) (by decide) (by decide) (by decide) dX12_init_271 dX12_init_273 ?_
  refine z_aload_n dX12_init_276 rfl rfl ?_
  refine z_bipush (v := nI 39) dX12_init_277 (by decide) ?_
  refine z_rowI (m := 32) hn ha (by decide) (by decide) fX12_333 (by decide) (by decide) (by decide) (by decide) (by decide) (by decide) dX12_init_279 dX12_init_281 ?_
  refine z_aload_n dX12_init_284 rfl rfl ?_
  refine z_bipush (v := nI 13) dX12_init_285 (by decide) ?_
  refine z_rowI (m := 33) hn ha (by decide) (by decide) fX12_336 (by decide) (by decide) (by decide) (by decide) (by decide) (by decide) dX12_init_287 dX12_init_289 ?_
  refine z_aload_n dX12_init_292 rfl rfl ?_
  refine z_sipush (v := nI 7280) dX12_init_293 (by decide) ?_
  refine z_rowI (m := 34) hn ha (by decide) (by decide) fX12_339 (by decide) (by decide) (by decide) (by decide) (by decide) (by decide) dX12_init_296 dX12_init_298 ?_
  refine z_aload_n dX12_init_301 rfl rfl ?_
  refine z_sipush (v := nI 169) dX12_init_302 (by decide) ?_
  refine z_rowI (m := 35) hn ha (by decide) (by decide) fX12_342 (by decide) (by decide) (by decide) (by decide) (by decide) (by decide) dX12_init_305 dX12_init_307 ?_
  refine z_aload_n dX12_init_310 rfl rfl ?_
  refine z_sipush (v := nI 12000) dX12_init_311 (by decide) ?_
  refine z_rowI (m := 36) hn ha (by decide) (by decide) fX12_345 (by decide) (by decide) (by decide) (by decide) (by decide) (by decide) dX12_init_314 dX12_init_316 ?_
  refine z_aload_n dX12_init_319 rfl rfl ?_
  refine z_sipush (v := nI 169) dX12_init_320 (by decide) ?_
  refine z_rowI (m := 37) hn ha (by decide) (by decide) fX12_348 (by decide) (by decide) (by decide) (by decide) (by decide) (by decide) dX12_init_323 dX12_init_325 ?_
  refine z_aload_n dX12_init_328 rfl rfl ?_
  refine z_sipush (v := nI 19440) dX12_init_329 (by decide) ?_
  refine z_rowI (m := 38) hn ha (by decide) (by decide) fX12_351 (by decide) (by decide) (by decide) (by decide) (by decide) (by decide) dX12_init_332 dX12_init_334 ?_
  refine z_aload_n dX12_init_337 rfl rfl ?_
  refine z_sipush (v := nI 416) dX12_init_338 (by decide) ?_
  refine z_rowI (m := 39) hn ha (by decide) (by decide) fX12_354 (by decide) (by decide) (by decide) (by decide) (by decide) (by decide) dX12_init_341 dX12_init_343 ?_
  refine z_aload_n dX12_init_346 rfl rfl ?_
  refine z_sipush (v := nI 10816) dX12_init_347 (by decide) ?_
  refine z_rowI (m := 40) hn ha (by decide) (by decide) fX12_357 (by decide) (by decide) (by decide) (by decide) (by decide) (by decide) dX12_init_350 dX12_init_352 ?_
  refine z_aload_n dX12_init_355 rfl rfl ?_
  refine z_sipush (v := nI 10816) dX12_init_356 (by decide) ?_
  refine z_rowL (m := 41) hn ha (by decide) (by decide) fX12_360 (by decide) (by decide) (by decide) (by decide) (by decide) (by decide) dX12_init_359 dX12_init_361 ?_
  refine z_aload_n dX12_init_364 rfl rfl ?_
  refine z_sipush (v := nI 10816) dX12_init_365 (by decide) ?_
  refine z_rowL (m := 42) hn ha (by decide) (by decide) fX12_363 (by decide) (by decide) (by decide) (by decide) (by decide) (by decide) dX12_init_368 dX12_init_370 ?_
  refine z_aload_n dX12_init_373 rfl rfl ?_
  refine z_sipush (v := nI 10816) dX12_init_374 (by decide) ?_
  refine z_rowL (m := 43) hn ha (by decide) (by decide) fX12_366 (by decide) (by decide) (by decide) (by decide) (by decide) (by decide) dX12_init_377 dX12_init_379 ?_
  refine z_aload_n dX12_init_382 rfl rfl ?_
  refine z_sipush (v := nI 10816) dX12_init_383 (by decide) ?_
  refine z_rowL (m := 44) hn ha (by decide) (by decide) fX12_369 (by decide) (by decide) (by decide) (by decide) (by decide) (by decide) dX12_init_386 dX12_init_388 ?_
  refine z_aload_n dX12_init_391 rfl rfl ?_
  refine z_bipush (v := nI 13) dX12_init_392 (by decide) ?_
  refine z_rowI (m := 45) hn ha (by decide) (by decide) fX12_372 (by decide) (by decide) (by decide) (by decide) (by decide) (by decide) dX12_init_394 dX12_init_396 ?_
  refine z_aload_n dX12_init_399 rfl rfl ?_
  refine z_sipush (v := nI 832) dX12_init_400 (by decide) ?_
  refine z_rowI (m := 46) hn ha (by decide) (by decide) fX12_375 (by decide) (by decide) (by decide) (by decide) (by decide) (by decide) dX12_init_403 dX12_init_405 ?_
  refine z_aload_n dX12_init_408 rfl rfl ?_
  refine z_sipush (v := nI 832) dX12_init_409 (by decide) ?_
  refine z_rowI (m := 47) hn ha (by decide) (by decide) fX12_378 (by decide) (by decide) (by decide) (by decide) (by decide) (by decide) dX12_init_412 dX12_init_414 ?_
  refine z_aload_n dX12_init_417 rfl rfl ?_
  refine z_sipush (v := nI 832) dX12_init_418 (by decide) ?_
  refine z_rowI (m := 48) hn ha (by decide) (by decide) fX12_381 (by decide) (by decide) (by decide) (by decide) (by decide) (by decide) dX12_init_421 dX12_init_423 ?_
  refine z_aload_n dX12_init_426 rfl rfl ?_
  refine z_sipush (v := nI 832) dX12_init_427 (by decide) ?_
  refine z_rowZ (m := 49) hn ha (by decide) (by decide) fX12_384 (by decide) (by decide) (by decide) (by decide) (by decide) (by decide) dX12_init_430 dX12_init_432 ?_
  refine z_aload_n dX12_init_435 rfl rfl ?_
  refine z_sipush (v := nI 3328) dX12_init_436 (by decide) ?_
  refine z_rowL (m := 50) hn ha (by decide) (by decide) fX12_387 (by decide) (by decide) (by decide) (by decide) (by decide) (by decide) dX12_init_439 dX12_init_441 ?_
  refine z_aload_n dX12_init_444 rfl rfl ?_
  refine z_sipush (v := nI 1100) dX12_init_445 (by decide) ?_
  refine z_rowI (m := 51) hn ha (by decide) (by decide) fX12_390 (by decide) (by decide) (by decide) (by decide) (by decide) (by decide) dX12_init_448 dX12_init_450 ?_
  refine z_aload_n dX12_init_453 rfl rfl ?_
  refine z_ldcw dX12_init_454 nX12_393 ?_
  refine z_rowL (m := 52) hn ha (by decide) (by decide) fX12_394 (by decide) (by decide) (by decide) (by decide) (by decide) (by decide) dX12_init_457 dX12_init_459 ?_
  refine z_aload_n dX12_init_462 rfl rfl ?_
  refine z_sipush (v := nI 3692) dX12_init_463 (by decide) ?_
  refine z_rowZ (m := 53) hn ha (by decide) (by decide) fX12_397 (by decide) (by decide) (by decide) (by decide) (by decide) (by decide) dX12_init_466 dX12_init_468 ?_
  refine z_aload_n dX12_init_471 rfl rfl ?_
  refine z_bipush (v := nI 13) dX12_init_472 (by decide) ?_
  refine z_rowI (m := 54) hn ha (by decide) (by decide) fX12_400 (by decide) (by decide) (by decide) (by decide) (by decide) (by decide) dX12_init_474 dX12_init_476 ?_
  refine z_aload_n dX12_init_479 rfl rfl ?_
  refine z_bipush (v := nI 13) dX12_init_480 (by decide) ?_
  refine z_rowI (m := 55) hn ha (by decide) (by decide) fX12_403 (by decide) (by decide) (by decide) (by decide) (by decide) (by decide) dX12_init_482 dX12_init_484 ?_
  refine z_aload_n dX12_init_487 rfl rfl ?_
  refine z_bipush (v := nI 13) dX12_init_488 (by decide) ?_
  refine z_rowI (m := 56) hn ha (by decide) (by decide) fX12_406 (by decide) (by decide) (by decide) (by decide) (by decide) (by decide) dX12_init_490 dX12_init_492 ?_
  refine z_aload_n dX12_init_495 rfl rfl ?_
  refine z_bipush (v := nI 13) dX12_init_496 (by decide) ?_
  refine z_rowI (m := 57) hn ha (by decide) (by decide) fX12_409 (by decide) (by decide) (by decide) (by decide) (by decide) (by decide) dX12_init_498 dX12_init_500 ?_
  refine z_aload_n dX12_init_503 rfl rfl ?_
  refine z_bipush (v := nI 13) dX12_init_504 (by decide) ?_
  refine z_rowI (m := 58) hn ha (by decide) (by decide) fX12_412 (by decide) (by decide) (by decide) (by decide) (by decide) (by decide) dX12_init_506 dX12_init_508 ?_
  refine z_aload_n dX12_init_511 rfl rfl ?_
  refine z_bipush (v := nI 13) dX12_init_512 (by decide) ?_
  refine z_rowI (m := 59) hn ha (by decide) (by decide) fX12_415 (by decide) (by decide) (by decide) (by decide) (by decide) (by decide) dX12_init_514 dX12_init_516 ?_
  refine z_aload_n dX12_init_519 rfl rfl ?_
  refine z_bipush (v := nI 52) dX12_init_520 (by decide) ?_
  refine z_rowL (m := 60) hn ha (by decide) (by decide) fX12_418 (by decide) (by decide) (by decide) (by decide) (by decide) (by decide) dX12_init_522 dX12_init_524 ?_
  refine z_aload_n dX12_init_527 rfl rfl ?_
  refine z_sipush (v := nI 208) dX12_init_528 (by decide) ?_
  refine z_rowI (m := 61) hn ha (by decide) (by decide) fX12_421 (by decide) (by decide) (by decide) (by decide) (by decide) (by decide) dX12_init_531 dX12_init_533 ?_
  refine z_aload_n dX12_init_536 rfl rfl ?_
  refine z_sipush (v := nI 208) dX12_init_537 (by decide) ?_
  refine z_rowI (m := 62) hn ha (by decide) (by decide) fX12_424 (by decide) (by decide) (by decide) (by decide) (by decide) (by decide) dX12_init_540 dX12_init_542 ?_
  refine z_aload_n dX12_init_545 rfl rfl ?_
  refine z_sipush (v := nI 208) dX12_init_546 (by decide) ?_
  refine z_rowZ (m := 63) hn ha (by decide) (by decide) fX12_427 (by decide) (by decide) (by decide) (by decide) (by decide) (by decide) dX12_init_549 dX12_init_551 ?_
  refine z_aload_n dX12_init_554 rfl rfl ?_
  refine z_bipush (v := nI 16) dX12_init_555 (by decide) ?_
  refine z_rowI (m := 64) hn ha (by decide) (by decide) fX12_430 (by decide) (by decide) (by decide) (by decide) (by decide) (by decide) dX12_init_557 dX12_init_559 ?_
  refine z_aload_n dX12_init_562 rfl rfl ?_
  refine z_bipush (v := nI 16) dX12_init_563 (by decide) ?_
  refine z_rowI (m := 65) hn ha (by decide) (by decide) fX12_433 (by decide) (by decide) (by decide) (by decide) (by decide) (by decide) dX12_init_565 dX12_init_567 ?_
  refine z_aload_n dX12_init_570 rfl rfl ?_
  refine z_bipush (v := nI 16) dX12_init_571 (by decide) ?_
  refine z_rowZ (m := 66) hn ha (by decide) (by decide) fX12_436 (by decide) (by decide) (by decide) (by decide) (by decide) (by decide) dX12_init_573 dX12_init_575 ?_
  refine z_aload_n dX12_init_578 rfl rfl ?_
  refine z_iconst (v := nI 4) dX12_init_579 (by decide) ?_
  refine z_rowL (m := 67) hn ha (by decide) (by decide) fX12_439 (by decide) (by decide) (by decide) (by decide) (by decide) (by decide) dX12_init_580 dX12_init_582 ?_
  have K : rX G (rEo G w a) dX12_init mX12_init 585 [some (.ref a), some (.int x1), some (.int x2), none, none] [] rZ (fun r S' => r = none ∧ S' = f_init N x1 x2) := rX.cutz (b_init_585 (X := fun F => F = f_init N x1 x2) hG (fun S' h => ⟨rfl, h⟩) ok rfl) ⟨rfl, rfl, rfl, trivial⟩
  refine zX.weaken (K _ (rI_made hn ha)) (fun r w' h => ?_)
  obtain ⟨S', h1, h2, h3⟩ := h
  rw [h3] at h1
  exact ⟨h2, h1⟩
