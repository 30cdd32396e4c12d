section
/-! THE CLASS'S NODE BUILDS A BLOCK -/
section
variable {F N g H T n : Nat} {s s' s1 s2 X X' : cS} {ct ct' : Nat → List Nat} {hd : List Nat} {w w' : Wd} {pe : Nat → Int} {d : List Nat}
theorem vB_N : agB (vB (wN w n)) (bkN (wN w) n) := fun i hi => by
  show (if i < 48 then wN w n (32 + i) else 0) = wN w n (32 + i)
  rw [if_pos hi]
theorem prB_low {s_ h rd : Nat} {v : Int} {b : List Nat} {i : Nat} (hi : i < 6) : bg (prB s_ h rd v b) i = bg (prB s_ h rd v []) i := by
  rcases (show i = 0 ∨ i = 1 ∨ i = 2 ∨ i = 3 ∨ i = 4 ∨ i = 5 by omega) with rfl | rfl | rfl | rfl | rfl | rfl <;> rfl
theorem prB_hi {s_ h rd : Nat} {v : Int} {b : List Nat} {i : Nat} : bg (prB s_ h rd v b) (6 + i) = bg b i := by
  show bg (hdB 1 s_ h rd ++ vrB v :: b) (6 + i) = bg b i
  have h5 : (hdB 1 s_ h rd).length = 5 := rfl
  rw [bg_app, h5, if_neg (by omega), show 6 + i - 5 = i + 1 by omega]
  rfl
/-- what a build asks of the world -/
def bdO (T : Nat) (w : Wd) (n : Nat) : Prop := bkOK (bkN (wN w) n) ∧ (∀ j m, j < 13 → wY w n 2 j = some m → m.length ≤ 72 ∧ isB m) ∧ (∀ q, q < (wP w n).length → (pg (wP w n) q).length = 7 ∧ isB (pg (wP w n) q) ∧ bg (pg (wP w n) q) 0 < 16 ∧ bg (pg (wP w n) q) 1 < 16) ∧ blkWf T (aBld w n T) ∧ isB (aBld w n T) ∧ tw (aBld w n T) 0 = (wN w n 1).toNat
theorem CR.pf_ (h : CR F g H T s ct hd w pe) (hn : n < H) (he : ∀ j m, j < 13 → wY w n 2 j = some m → m.length ≤ 72 ∧ isB m) : pfX g H T s n (wY w n 2) := fun j hj => by
  have hT := h.1.bb.2.1
  have q := (h.node hn).2.2.2.2.2.2.2.2.1.2.1 j hj
  cases e : cP s (nd g n + 23) j with
  | none =>
    rw [e] at q
    exact Or.inl ⟨q.symm, rfl⟩
  | some a =>
    rw [e] at q
    have q : some (ct a) = wY w n 2 j := q
    have c1 := cnA_hr (g := g) (H := H) (T := T) (s := s) (e := 4) hn (by decide) hj e
    have ua : 1 ≤ us g H T s hd a := by
      unfold us
      omega
    have k5 := h.2.2.2.1.k ua
    have ms := h.ms ua
    exact Or.inr ⟨a, ct a, q.symm, rfl, h.2.2.2.1.n k5, ms, ms.2.2.2.2.2, (he j (ct a) (by omega) q.symm).1⟩
theorem build_C (hN : 2100 ≤ N) (h : CR F g H T s ct hd w pe) (hn : n < H) (hl : hd.length ≤ 30) (h1 : 1 ≤ wN w n 1 ∧ wN w n 1 ≤ 41) (h2 : 0 ≤ wN w n 2 ∧ wN w n 2 < 16) (hf : cI s 5 (nd g n + 6) = nI 0) (hb : bdO T w n) : wp (p_X7_build N g H T s (some (nd g n))) (k_X7_build N g H T s (some (nd g n))) (fun z => mkC F g H T s ct hd w pe (prM w n (-1) (aBld w n T)) z ∧ ∀ a, z.1 = some a → cI z.2 4 a = nI 1) := by
  obtain ⟨ok, he, hp, hW, hB, ht⟩ := hb
  have cb := h.1.bb
  have n13 : n < 13 := by omega
  have hg : g + 31 ≤ nd g H := by unfold nd; omega
  have v1 : iI (wN w n 1) = nI (wN w n 1).toNat := by
    rw [← iI_n]
    congr 1
    omega
  have v2 : iI (wN w n 2) = nI (wN w n 2).toNat := by
    rw [← iI_n]
    congr 1
    omega
  have cell := h.node hn
  have st := h.2.1
  have K28 : cK s (g + 28) = 20 := (st.rk (c := 8) (k := 10) isO8 rfl (by omega)) _ rfl
  have L28 : cL s (g + 28) = 1024 := st.rl (c := 8) (k := 10) isO8 rfl (by omega) (by omega)
  have k11 : cK s (nd g n + 11) = 20 := (st.rk (c := 5) (k := 5) (isO5 hn) rfl (by omega)) _ rfl
  have k9 : cK s (nd g n + 6 + 3) = 20 := (st.rk (c := 0) (k := 3) (o54 (isO5 hn)) rfl (by omega)) _ rfl
  have e1 : cI s 1 (nd g n) = nI n := cell.1.1
  have e9 : cI s 9 (nd g n) = nI (wN w n 1).toNat := by rw [← v1]; exact cell.1.2.2.1
  have e10 : cI s 10 (nd g n) = nI (wN w n 2).toNat := by rw [← v2]; exact cell.1.2.2.2.1
  obtain ⟨b1, b2, d, b3, b4, b5, b6⟩ := cell.2.2.2.2.2.1
  have bk : bkC s (nd g n + 6) (bkN (wN w) n) := bkC_cg b1 vB_N
  have rt : ∀ i, i < 32 → cA s (nd g n + 9) i = sb (bg (acR (bkN (wN w) n)) i) := by
    rcases b2 with q | q
    · rw [hf] at q
      exact absurd q (by decide)
    · rw [← acR_cg vB_N]
      exact q.2
  have eT : cI s 1 (g + 8) = nI T := h.2.2.2.2.2.1.2.1
  have eS : cI s 1 (nd g n + 14) = nI T := cell.2.2.2.2.2.2.2.2.2.2.2.2.1
  have qp : qP s (nd g n) (wP w n) := cell.2.2.2.2.2.2.2.2.2.1
  have Bl := hW.len
  refine bld_54 (u := 0) (d := d) (k := acR (bkN (wN w) n)) st hn K28 k11 k9 n13 (by omega) (by omega) L28 e1 e9 e10 b6 rt (fun X0 f0 st0 dk => ?_)
  refine bld_97 (w := w) (d := d) (by omega) cb.2.1 hn n13 L28 bk ok eT eS e1 (h.pf_ hn he) he qp hp b3 rfl K28 st0 f0 dk (fun X fX stX rX lX => ?_)
  have KX : cK X (g + 28) = 20 := by rw [fX.1]; exact K28
  obtain ⟨s1, s2, s3, p1, q1, p2, q2, p3, q3, fR, rR, lR, stR⟩ := root_row hN stX KX (by rw [fX.L]; exact L28) hW hB Bl.2 rX
  have eM : prM w n (-1) (aBld w n T) = prB n (wN w n 1).toNat (wN w n 2).toNat (-1) (aBld w n T) := rfl
  have lM : (prM w n (-1) (aBld w n T)).length = 6 + (aBld w n T).length := prB_len
  obtain ⟨t1, t2, t3, t4⟩ := prB_ok (T := T) (n := n) (h := (wN w n 1).toNat) (r := (wN w n 2).toNat) (v := -1) (b := aBld w n T) (by omega) (by omega) (by omega) (by omega) (by omega) ⟨by decide, by decide⟩ hW hB ht
  obtain ⟨y0, -, -, y6⟩ := bg_pr (s := n) (h := (wN w n 1).toNat) (r := (wN w n 2).toNat) (v := -1) (b := aBld w n T) ⟨by decide, by decide⟩
  have rM : ∀ i, i < (prM w n (-1) (aBld w n T)).length → cA s3 (g + 28) i = sb (bg (prM w n (-1) (aBld w n T)) i) := fun i hi => by
    rw [lM] at hi
    rw [eM]
    by_cases c : i < 6
    · rw [lR i c, lX i c, prB_low (b := aBld w n T) c]
    · have e := rR (i - 6) (by omega)
      rw [show 6 + (i - 6) = i by omega] at e
      rw [e, ← prB_hi (s_ := n) (h := (wN w n 1).toNat) (rd := (wN w n 2).toNat) (v := -1) (b := aBld w n T) (i := i - 6), show 6 + (i - 6) = i by omega]
  have y0 : bg (prM w n (-1) (aBld w n T)) 0 = 1 := y0
  have y6 : (prM w n (-1) (aBld w n T)).drop 6 = aBld w n T := y6
  have t3 : isB (prM w n (-1) (aBld w n T)) := t3
  have t4 : prOK T (prM w n (-1) (aBld w n T)) := t4
  clear eM
  generalize prM w n (-1) (aBld w n T) = M at lM rM y0 y6 t3 t4 ⊢
  have fA : cfr (fun x => blP g x ∨ isH (g + 3) x) s s3 := (fX.mono (fun x hx => Or.inl hx)).trans (fR.mono (fun x hx => by
    rcases hx with hx | hx
    · exact Or.inr hx
    · exact Or.inl (Or.inl hx)))
  have hsc : ∀ x, blP g x ∨ isH (g + 3) x → scP g H x := fun x hx => by
    rcases hx with hx | hx
    · unfold blP at hx
      unfold scP
      rcases hx with hx | hx | hx | hx
      · exact Or.inr (Or.inr (Or.inr (Or.inl hx)))
      · exact Or.inr (Or.inr (Or.inl (by omega)))
      · exact Or.inr (Or.inr (Or.inl (by omega)))
      · exact Or.inr (Or.inr (Or.inl (by omega)))
    · unfold isH at hx
      exact Or.inl (by omega)
  have hlt : ∀ x, blP g x ∨ isH (g + 3) x → x < nd g H := fun x hx => by
    unfold blP isH at hx
    omega
  have cR3 := h.sc fA hsc stR
  unfold KO_X7_build_97 KF_X7_build_97
  rw [q1]
  refine wp_and p1 ?_
  unfold KO_X7_build_108 KF_X7_build_108
  rw [q2]
  refine wp_and p2 ?_
  unfold KO_X7_build_118 KF_X7_build_118
  rw [n_add, show 6 + 67 = 73 from rfl, q3]
  refine wp_and p3 ?_
  rw [← lM]
  refine wp_mono (bld_131 hN cR3 hl (by omega) (by omega) t3 (Or.inr (Or.inl ⟨y0, t4⟩)) (by unfold idM; rw [if_pos y0]) rM) ?_
  rintro ⟨⟨a, ct5, z1, z2, z3, z4, z5, z6, z7⟩, z8⟩
  have ff := cfr.ff h fA hlt
  exact ⟨⟨a, ct5, z1, z2, z3, z4, z5, by rw [← fA.pf.us]; exact z6, ff.trans z7⟩, z8⟩
end
end
