/-! execute -/
theorem mkRest {σ s : Mem} (hX : Rest σ) (hHS : HS (ring s) (s 4 1) (s 4 2) (s 25 5) (s 27)) (e05 : s 0 5 = σ 0 5) (e254 : s 25 4 = σ 25 4) (e23 : s 23 = σ 23) (e28 : s 28 = σ 28) (h6 : s 25 6 = 0) (h8 : s 0 8 = s 25 8 ∧ s 0 9 = s 25 9) (e07 : s 0 7 = σ 0 7) (e2515 : s 25 15 = σ 25 15) (e24 : s 24 = σ 24) (e31 : s 31 = σ 31) (h191 : s 19 1 = 0) (h2511 : s 25 11 = 0) (hE1 : ER (s 0 10) (s 25 12)) (hE2 : ER (s 0 11) (s 25 13)) (e18 : s 18 = σ 18) : Rest s := by
  refine ⟨hHS, by rw [e05, e254, e23, e28]; exact hX.2.1, h6, h8, by rw [e07, e2515, e24, e31]; exact hX.2.2.2.2.1, ⟨0, by decide, h191, h2511, fun j hj => absurd hj (by omega)⟩, hE1, hE2, by rw [e18]; exact hX.2.2.2.2.2.2.2.2⟩
theorem HS_stay {σ : Mem} {kp : Nat → Int32} {n m : Int} (h0 : 0 ≤ n ∧ n < 9) (h1 : 0 ≤ m ∧ m ≤ 8) (hs : ∀ i : Int, 0 ≤ i → i < m → ∃ b : Nat → Int, WF b ∧ RC b (ring σ ((n + 9 - m + i) % 9).toNat) ∧ RG b (fun j => kp (179 * i.toNat + j))) {rg : Nat → Nat → Int32} (hrg : ∀ k, k < 9 → k ≠ n.toNat → rg k = ring σ k) : HS rg (zI n) (zI m) (zI m) kp := by
  refine ⟨n, m, h0, h1, rfl, rfl, rfl, fun i i0 i1 => ?_⟩
  obtain ⟨b, b1, b2, b3⟩ := hs i i0 i1
  refine ⟨b, b1, ?_, b3⟩
  rw [hrg _ (by omega) (by omega)]
  exact b2
theorem rcl_c (σ : Mem) (o : Option (Int × Int)) {c : Nat} (h : c ≠ 0) : rcl σ o c = σ c := by
  cases o with
  | none => rfl
  | some p => show st (st σ 0 8 _) 0 9 _ c = σ c; rw [st_c _ _ _ h, st_c _ _ _ h]
theorem rcl_j (σ : Mem) (o : Option (Int × Int)) {j : Nat} (h8 : j ≠ 8) (h9 : j ≠ 9) : rcl σ o 0 j = σ 0 j := by
  cases o with
  | none => rfl
  | some p => show st (st σ 0 8 _) 0 9 _ 0 j = σ 0 j; rw [st_j _ _ _ h9, st_j _ _ _ h8]
theorem rcl_8 (σ : Mem) (o : Option (Int × Int)) : rcl σ o 0 8 = (rv (σ 0 8) (σ 0 9) o).1 ∧ rcl σ o 0 9 = (rv (σ 0 8) (σ 0 9) o).2 := by
  cases o with
  | none => exact ⟨rfl, rfl⟩
  | some p => exact ⟨rfl, rfl⟩
theorem rn_idx : ∀ (D : List (Int × List Int)) (a : Nat → Int), (rn D a).2.1 ≤ D.length
  | [], _ => Nat.le_refl _
  | c :: cs, a => by
    have := rn_idx cs (kN a c)
    show (if kO a c = true then ((rn cs (kN a c)).1, (rn cs (kN a c)).2.1 + 1, (rn cs (kN a c)).2.2) else (false, 0, a, kR a c)).2.1 ≤ cs.length + 1
    split
    · show (rn cs (kN a c)).2.1 + 1 ≤ cs.length + 1
      omega
    · exact Nat.zero_le _
theorem o_42 {σ : Mem} (hI : Inv σ) (a1 a2 a3 a4 : Int32) : wplc_42 a1 a2 a3 a4 σ Inv := by
  obtain ⟨⟨a, hW, hR, hG⟩, hX⟩ := hI
  obtain ⟨n, m, hn, hm, e1, e2, e3, hs9⟩ := id hX.1
  obtain ⟨N, hN, l1, l2, hq⟩ := hX.2.2.2.2.2.1
  obtain ⟨hr8, hr9⟩ := hX.2.2.2.1
  have hE1 := hX.2.2.2.2.2.2.1
  have hE2 := hX.2.2.2.2.2.2.2.1
  let ch : Int → Int := fun p => if 0 ≤ p ∧ p < N then (σ 20 p.toNat).toInt else -1
  have hci : ∀ p, 0 ≤ p → p < N → σ 20 p.toNat = zI (ch p) ∧ σ 30 p.toNat = zI (ch p) ∧ 0 ≤ ch p ∧ ch p < 65536 := fun p p0 p1 => by
    obtain ⟨q, q1, q2, q3⟩ := hq p.toNat (by omega)
    have e : ch p = (q : Int) := by
      show (if 0 ≤ p ∧ p < N then (σ 20 p.toNat).toInt else -1) = _
      rw [if_pos ⟨p0, p1⟩, q2, show nI q = zI (q : Int) from (zI_n q).symm, zI_int (by omega) (by omega)]
    rw [e]
    exact ⟨by rw [q2]; exact (zI_n q).symm, by rw [q3]; exact (zI_n q).symm, by omega, by omega⟩
  have hco : ∀ p, ¬ (0 ≤ p ∧ p < N) → ch p = -1 := fun p hp => if_neg hp
  have hTX : TX ch N := ⟨hN, hco, fun p => by
    by_cases c : 0 ≤ p ∧ p < N
    · have := hci p c.1 c.2; omega
    · rw [hco p c]; decide, fun p p0 p1 => (hci p p0 p1).2.2.1⟩
  have hTC : TC σ ch N := ⟨hTX, l1, fun p p0 p1 => (hci p p0 p1).1⟩
  clear_value ch
  have hpos := pt_8 hTX 9 0 (by decide) hN.1
  unfold wplc_42 wp_L_execute wp_X4_execute
  refine q_parse hTC (fun hk σ' hP h19 hS => ?_) (fun hk σ' hP hw5 => ?_)
  · intro σ3 e30
    subst e30
    have E : ∀ c, c ≠ 19 → c ≠ 21 → c ≠ 22 → (st σ' 19 1 0) c = σ c := fun c c1 c2 c3 => by rw [st_c _ _ _ c1]; exact hP.1 c c1 c2 c3
    refine one_ne' ?_
    have hlen : (pt ch 9 0).2.2.length ≤ 9 := by
      have := hpos.2 hk
      omega
    have g1 : (st σ' 19 1 0) 4 1 = zI n := by rw [E 4 (by decide) (by decide) (by decide)]; exact e1
    have g2 : (st σ' 19 1 0) 4 2 = zI m := by rw [E 4 (by decide) (by decide) (by decide)]; exact e2
    have hR1 : RC a ((st σ' 19 1 0) 2) := by rw [E 2 (by decide) (by decide) (by decide)]; exact hR
    have hrg : ring (st σ' 19 1 0) = ring σ := by
      funext k
      unfold ring
      rw [E 6 (by decide) (by decide) (by decide), E 7 (by decide) (by decide) (by decide), E 8 (by decide) (by decide) (by decide), E 9 (by decide) (by decide) (by decide), E 10 (by decide) (by decide) (by decide), E 11 (by decide) (by decide) (by decide), E 12 (by decide) (by decide) (by decide), E 13 (by decide) (by decide) (by decide), E 14 (by decide) (by decide) (by decide)]
    refine q_begin g1 hn ?_
    generalize hσ1 : st σ' 19 1 0 = σ1 at *
    have f19 : σ1 19 1 = 0 := by rw [← hσ1]; exact st_e _ _ _ _
    have f194 : σ1 19 4 = zI (pt ch 9 0).2.2.length := by rw [← hσ1, st_j _ _ _ (show (4 : Nat) ≠ 1 by decide)]; exact h19
    have hS1 : ST σ1 0 (pt ch 9 0).2.2 := by rw [← hσ1]; exact hS
    refine ⟨(pt ch 9 0).2.2.length + 1, q_execL hlen (pt ch 9 0).2.2 0 a (wr σ1 (Rn σ1 n.toNat)) rfl (Nat.zero_add _) (fun c hc => pt_W ch 9 0 c hc) f194 hS1 hW hR1 (fun hr σ4 hQ w1 w2 => ?_) (fun hr σ4 hQ => ?_)⟩
    · have Q : ∀ c, c ≠ 2 → c ≠ 3 → σ4 c = wr σ1 (Rn σ1 n.toNat) c := hQ
      unfold wpJ_X4_execute_106 wp_X0_commands
      refine q_end (n := n) (m := m) (by rw [Q 4 (by decide) (by decide)]; exact g1) hn (by rw [Q 4 (by decide) (by decide)]; exact g2) hm ?_
      intro σ5 e5
      have g19 : st (st σ4 4 1 (zI (if n + 1 < 9 then n + 1 else 0))) 4 2 (zI (if m + 1 < 8 then m + 1 else 8)) 19 = σ1 19 := Q 19 (by decide) (by decide)
      rw [g19, f194] at e5
      have G : ∀ c, c ≠ 2 → c ≠ 3 → c ≠ 4 → c ≠ 34 → σ5 c = wr σ1 (Rn σ1 n.toNat) c := fun c c2 c3 c4 c34 => by rw [e5, st_c _ _ _ c34, st_c _ _ _ c4, st_c _ _ _ c4]; exact Q c c2 c3
      have H : ∀ c, c ≠ 2 → c ≠ 3 → c ≠ 4 → c ≠ 34 → c ≠ 19 → c ≠ 21 → c ≠ 22 → wr σ1 (Rn σ1 n.toNat) c = σ1 c → σ5 c = σ c := fun c c2 c3 c4 c34 c19 c21 c22 hh => by rw [G c c2 c3 c4 c34, hh]; exact E c c19 c21 c22
      have k25 : σ5 25 = σ 25 := H 25 (by decide) (by decide) (by decide) (by decide) (by decide) (by decide) (by decide) rfl
      have k26 : σ5 26 = σ 26 := H 26 (by decide) (by decide) (by decide) (by decide) (by decide) (by decide) (by decide) rfl
      have k27 : σ5 27 = σ 27 := H 27 (by decide) (by decide) (by decide) (by decide) (by decide) (by decide) (by decide) rfl
      have k30 : σ5 30 = σ 30 := H 30 (by decide) (by decide) (by decide) (by decide) (by decide) (by decide) (by decide) rfl
      have k0 : σ5 0 = σ 0 := H 0 (by decide) (by decide) (by decide) (by decide) (by decide) (by decide) (by decide) rfl
      have k34 : σ5 34 0 = zI (pt ch 9 0).2.2.length := by rw [e5]; exact st_e _ _ _ _
      have k2 : σ5 2 = σ4 2 := by rw [e5]; rfl
      refine m_execute (σ := σ5) (ch := ch) (n := N) (m := m) (a := a) ⟨hTX, by rw [k25]; exact l2, fun p p0 p1 => by rw [k30]; exact (hci p p0 p1).2.1⟩ (by rw [k26]; exact hG) hW (by rw [k25]; exact hX.2.2.1) (by rw [k25]; exact e3) hm (fun h => by rw [hk] at h; exact absurd h (by decide)) (fun _ h => by rw [hr] at h; exact absurd h (by decide)) (fun _ _ s hEF t8 t9 t12 t13 t5 t7 t26 t27 => ?_)
      obtain ⟨row, t27a, t27b⟩ := t27
      have J : ∀ c, c ≠ 25 → c ≠ 26 → c ≠ 27 → c ≠ 29 → c ≠ 33 → s c = σ5 c := hEF.1
      refine fin_i t7 (fun _ => ?_) ⟨⟨(rn (pt ch 9 0).2.2 a).2.2.1, w1, by rw [J 2 (by decide) (by decide) (by decide) (by decide) (by decide), k2]; exact w2, t26⟩, mkRest hX ?_ ?_ ?_ ?_ ?_ hEF.2.2.2.1 ⟨?_, ?_⟩ ?_ ?_ ?_ ?_ ?_ hEF.2.2.2.2 ?_ ?_ ?_⟩
      · rw [J 34 (by decide) (by decide) (by decide) (by decide) (by decide)]; exact k34
      · have j4 : s 4 1 = zI (if n + 1 < 9 then n + 1 else 0) ∧ s 4 2 = zI (if m + 1 < 8 then m + 1 else 8) := by
          rw [J 4 (by decide) (by decide) (by decide) (by decide) (by decide), e5]
          exact ⟨rfl, rfl⟩
        rw [j4.1, j4.2, t5]
        refine HS_push (σ := σ1) hn hm (by rw [hrg]; exact hs9) hW hR1 t27a (by rw [k27] at t27b; exact t27b) (ring_wr ⟨?_, ?_, ?_, ?_, ?_, ?_, ?_, ?_, ?_⟩) <;> (rw [J _ (by decide) (by decide) (by decide) (by decide) (by decide), G _ (by decide) (by decide) (by decide) (by decide)]; rfl)
      · rw [J 0 (by decide) (by decide) (by decide) (by decide) (by decide), k0]
      · rw [hEF.2.1, k25]
      · rw [J 23 (by decide) (by decide) (by decide) (by decide) (by decide)]; exact H 23 (by decide) (by decide) (by decide) (by decide) (by decide) (by decide) (by decide) rfl
      · rw [J 28 (by decide) (by decide) (by decide) (by decide) (by decide)]; exact H 28 (by decide) (by decide) (by decide) (by decide) (by decide) (by decide) (by decide) rfl
      · rw [J 0 (by decide) (by decide) (by decide) (by decide) (by decide), k0, t8, k25]; exact hr8
      · rw [J 0 (by decide) (by decide) (by decide) (by decide) (by decide), k0, t9, k25]; exact hr9
      · rw [J 0 (by decide) (by decide) (by decide) (by decide) (by decide), k0]
      · rw [hEF.2.2.1, k25]
      · rw [J 24 (by decide) (by decide) (by decide) (by decide) (by decide)]; exact H 24 (by decide) (by decide) (by decide) (by decide) (by decide) (by decide) (by decide) rfl
      · rw [J 31 (by decide) (by decide) (by decide) (by decide) (by decide)]; exact H 31 (by decide) (by decide) (by decide) (by decide) (by decide) (by decide) (by decide) rfl
      · rw [J 19 (by decide) (by decide) (by decide) (by decide) (by decide), G 19 (by decide) (by decide) (by decide) (by decide)]; exact f19
      · rw [J 0 (by decide) (by decide) (by decide) (by decide) (by decide), k0, t12, k25]; exact hE1
      · rw [J 0 (by decide) (by decide) (by decide) (by decide) (by decide), k0, t13, k25]; exact hE2
      · rw [J 18 (by decide) (by decide) (by decide) (by decide) (by decide)]; exact H 18 (by decide) (by decide) (by decide) (by decide) (by decide) (by decide) (by decide) rfl
    · have Q : ∀ c, c ≠ 2 → c ≠ 3 → σ4 c = wr σ1 (Rn σ1 n.toNat) c := hQ
      have hidx := rn_idx (pt ch 9 0).2.2 a
      generalize ho : (rn (pt ch 9 0).2.2 a).2.2.2 = o at *
      have hzi : ((0 : Nat) : Int) + ((rn (pt ch 9 0).2.2 a).2.1 : Int) = (rn (pt ch 9 0).2.2 a).2.1 := by omega
      rw [hzi]
      unfold wpJ_X4_execute_73
      refine q_backOut (n := n) (by rw [rcl_c _ _ (show (4 : Nat) ≠ 0 by decide), Q 4 (by decide) (by decide)]; exact g1) hn (fun σ5 e5 => Or.inr ⟨rfl, ?_⟩)
      have G : ∀ c, c ≠ 2 → c ≠ 3 → c ≠ 0 → σ5 c = wr σ1 (Rn σ1 n.toNat) c := fun c c2 c3 c0 => by rw [e5, st_c _ _ _ c0, up_c _ _ c2, rcl_c _ _ c0]; exact Q c c2 c3
      have H : ∀ c, c ≠ 2 → c ≠ 3 → c ≠ 0 → c ≠ 19 → c ≠ 21 → c ≠ 22 → wr σ1 (Rn σ1 n.toNat) c = σ1 c → σ5 c = σ c := fun c c2 c3 c0 c19 c21 c22 hh => by rw [G c c2 c3 c0, hh]; exact E c c19 c21 c22
      have q0 : σ4 0 = σ 0 := by rw [Q 0 (by decide) (by decide)]; exact E 0 (by decide) (by decide) (by decide)
      have k25 : σ5 25 = σ 25 := H 25 (by decide) (by decide) (by decide) (by decide) (by decide) (by decide) rfl
      have k26 : σ5 26 = σ 26 := H 26 (by decide) (by decide) (by decide) (by decide) (by decide) (by decide) rfl
      have k27 : σ5 27 = σ 27 := H 27 (by decide) (by decide) (by decide) (by decide) (by decide) (by decide) rfl
      have k30 : σ5 30 = σ 30 := H 30 (by decide) (by decide) (by decide) (by decide) (by decide) (by decide) rfl
      have k0 : ∀ j, j ≠ 11 → σ5 0 j = rcl σ4 o 0 j := fun j hj => by rw [e5, st_j _ _ _ hj, up_c _ _ (show (0 : Nat) ≠ 2 by decide)]
      have k011 : σ5 0 11 = zI (rn (pt ch 9 0).2.2 a).2.1 := by rw [e5]; exact st_e _ _ _ _
      have rgX : ∀ k, k < 9 → ring (rcl σ4 o) k = Rn σ1 n.toNat k := by
        refine ring_wr ⟨?_, ?_, ?_, ?_, ?_, ?_, ?_, ?_, ?_⟩ <;> (rw [rcl_c _ _ (by decide), Q _ (by decide) (by decide)]; rfl)
      have k2 : RC a (σ5 2) := by
        refine RC_cong hR1 (fun j hj => ?_)
        rw [e5, st_c _ _ _ (show (2 : Nat) ≠ 0 by decide), up_e, pk_cpy_in (by omega) (by omega), rgX _ (by omega), Rn_n _ _ (by omega)]
        congr 1
        omega
      refine m_execute (σ := σ5) (ch := ch) (n := N) (m := m) (a := a) ⟨hTX, by rw [k25]; exact l2, fun p p0 p1 => by rw [k30]; exact (hci p p0 p1).2.1⟩ (by rw [k26]; exact hG) hW (by rw [k25]; exact hX.2.2.1) (by rw [k25]; exact e3) hm (fun h => by rw [hk] at h; exact absurd h (by decide)) (fun _ _ s hEF t8 t9 t12 t13 t5 t7 t26 t27 => ?_) (fun _ h => by rw [hr] at h; exact absurd h (by decide))
      have J : ∀ c, c ≠ 25 → c ≠ 26 → c ≠ 27 → c ≠ 29 → c ≠ 33 → s c = σ5 c := hEF.1
      rw [ho, k25] at t8 t9
      refine fin_i t7 (fun c => absurd c (by decide)) ⟨⟨a, hW, by rw [J 2 (by decide) (by decide) (by decide) (by decide) (by decide)]; exact k2, t26⟩, mkRest hX ?_ ?_ ?_ ?_ ?_ hEF.2.2.2.1 ⟨?_, ?_⟩ ?_ ?_ ?_ ?_ ?_ hEF.2.2.2.2 ?_ ?_ ?_⟩
      · have j4 : s 4 1 = zI n ∧ s 4 2 = zI m := by
          rw [J 4 (by decide) (by decide) (by decide) (by decide) (by decide), G 4 (by decide) (by decide) (by decide)]
          exact ⟨g1, g2⟩
        have j5 : s 25 5 = zI m := by rw [t5, k25]; exact e3
        rw [j4.1, j4.2, j5, t27, k27]
        refine HS_stay hn hm hs9 (fun k k9 kn => ?_)
        have : ∀ k, k < 9 → ring s k = Rn σ1 n.toNat k := by
          refine ring_wr ⟨?_, ?_, ?_, ?_, ?_, ?_, ?_, ?_, ?_⟩ <;> (rw [J _ (by decide) (by decide) (by decide) (by decide) (by decide), G _ (by decide) (by decide) (by decide)]; rfl)
        rw [this k k9, Rn_k _ kn, hrg]
      · rw [J 0 (by decide) (by decide) (by decide) (by decide) (by decide), k0 _ (by decide), rcl_j _ _ (by decide) (by decide), q0]
      · rw [hEF.2.1, k25]
      · rw [J 23 (by decide) (by decide) (by decide) (by decide) (by decide)]; exact H 23 (by decide) (by decide) (by decide) (by decide) (by decide) (by decide) rfl
      · rw [J 28 (by decide) (by decide) (by decide) (by decide) (by decide)]; exact H 28 (by decide) (by decide) (by decide) (by decide) (by decide) (by decide) rfl
      · rw [J 0 (by decide) (by decide) (by decide) (by decide) (by decide), k0 _ (by decide), (rcl_8 σ4 o).1, q0, t8, hr8, hr9]
      · rw [J 0 (by decide) (by decide) (by decide) (by decide) (by decide), k0 _ (by decide), (rcl_8 σ4 o).2, q0, t9, hr8, hr9]
      · rw [J 0 (by decide) (by decide) (by decide) (by decide) (by decide), k0 _ (by decide), rcl_j _ _ (by decide) (by decide), q0]
      · rw [hEF.2.2.1, k25]
      · rw [J 24 (by decide) (by decide) (by decide) (by decide) (by decide)]; exact H 24 (by decide) (by decide) (by decide) (by decide) (by decide) (by decide) rfl
      · rw [J 31 (by decide) (by decide) (by decide) (by decide) (by decide)]; exact H 31 (by decide) (by decide) (by decide) (by decide) (by decide) (by decide) rfl
      · rw [J 19 (by decide) (by decide) (by decide) (by decide) (by decide), G 19 (by decide) (by decide) (by decide)]; exact f19
      · rw [J 0 (by decide) (by decide) (by decide) (by decide) (by decide), k0 _ (by decide), rcl_j _ _ (by decide) (by decide), q0, t12, k25]; exact hE1
      · rw [J 0 (by decide) (by decide) (by decide) (by decide) (by decide), k011, t13]
        exact ⟨_, by omega, rfl, rfl⟩
      · rw [J 18 (by decide) (by decide) (by decide) (by decide) (by decide)]; exact H 18 (by decide) (by decide) (by decide) (by decide) (by decide) (by decide) rfl
  · intro σ3 e30
    subst e30
    refine zero_eq' ?_
    unfold wp_X0_firstWrong
    intro σ5 e5
    rw [st_j _ _ _ (show (5 : Nat) ≠ 1 by decide), hw5] at e5
    refine Or.inl ⟨rfl, ?_⟩
    have H : ∀ c, c ≠ 0 → c ≠ 19 → c ≠ 21 → c ≠ 22 → σ5 c = σ c := fun c c0 c1 c2 c3 => by rw [e5, st_c _ _ _ c0, st_c _ _ _ c1]; exact hP.1 c c1 c2 c3
    have k0 : ∀ j, j ≠ 10 → σ5 0 j = σ 0 j := fun j hj => by rw [e5, st_j _ _ _ hj, st_c _ _ _ (show (0 : Nat) ≠ 19 by decide), hP.1 0 (by decide) (by decide) (by decide)]
    have k010 : σ5 0 10 = zI (pt ch 9 0).2.1 := by rw [e5]; exact st_e _ _ _ _
    have k25 : σ5 25 = σ 25 := H 25 (by decide) (by decide) (by decide) (by decide)
    have k26 : σ5 26 = σ 26 := H 26 (by decide) (by decide) (by decide) (by decide)
    have k27 : σ5 27 = σ 27 := H 27 (by decide) (by decide) (by decide) (by decide)
    have k30 : σ5 30 = σ 30 := H 30 (by decide) (by decide) (by decide) (by decide)
    refine m_execute (σ := σ5) (ch := ch) (n := N) (m := m) (a := a) ⟨hTX, by rw [k25]; exact l2, fun p p0 p1 => by rw [k30]; exact (hci p p0 p1).2.1⟩ (by rw [k26]; exact hG) hW (by rw [k25]; exact hX.2.2.1) (by rw [k25]; exact e3) hm (fun _ s hEF t8 t9 t12 t13 t5 t7 t26 t27 => ?_) (fun h => by rw [hk] at h; exact absurd h (by decide)) (fun h => by rw [hk] at h; exact absurd h (by decide))
    have J : ∀ c, c ≠ 25 → c ≠ 26 → c ≠ 27 → c ≠ 29 → c ≠ 33 → s c = σ5 c := hEF.1
    refine fin_i t7 (fun c => absurd c (by decide)) ⟨⟨a, hW, by rw [J 2 (by decide) (by decide) (by decide) (by decide) (by decide), H 2 (by decide) (by decide) (by decide) (by decide)]; exact hR, by rw [t26, k26]; exact hG⟩, mkRest hX ?_ ?_ ?_ ?_ ?_ hEF.2.2.2.1 ⟨?_, ?_⟩ ?_ ?_ ?_ ?_ ?_ hEF.2.2.2.2 ?_ ?_ ?_⟩
    · have er : ring s = ring σ := by
        funext k
        unfold ring
        rw [J 6 (by decide) (by decide) (by decide) (by decide) (by decide), J 7 (by decide) (by decide) (by decide) (by decide) (by decide), J 8 (by decide) (by decide) (by decide) (by decide) (by decide), J 9 (by decide) (by decide) (by decide) (by decide) (by decide), J 10 (by decide) (by decide) (by decide) (by decide) (by decide), J 11 (by decide) (by decide) (by decide) (by decide) (by decide), J 12 (by decide) (by decide) (by decide) (by decide) (by decide), J 13 (by decide) (by decide) (by decide) (by decide) (by decide), J 14 (by decide) (by decide) (by decide) (by decide) (by decide), H 6 (by decide) (by decide) (by decide) (by decide), H 7 (by decide) (by decide) (by decide) (by decide), H 8 (by decide) (by decide) (by decide) (by decide), H 9 (by decide) (by decide) (by decide) (by decide), H 10 (by decide) (by decide) (by decide) (by decide), H 11 (by decide) (by decide) (by decide) (by decide), H 12 (by decide) (by decide) (by decide) (by decide), H 13 (by decide) (by decide) (by decide) (by decide), H 14 (by decide) (by decide) (by decide) (by decide)]
      rw [er, J 4 (by decide) (by decide) (by decide) (by decide) (by decide), H 4 (by decide) (by decide) (by decide) (by decide), t5, k25, t27, k27]
      exact hX.1
    · rw [J 0 (by decide) (by decide) (by decide) (by decide) (by decide), k0 _ (by decide)]
    · rw [hEF.2.1, k25]
    · rw [J 23 (by decide) (by decide) (by decide) (by decide) (by decide)]; exact H 23 (by decide) (by decide) (by decide) (by decide)
    · rw [J 28 (by decide) (by decide) (by decide) (by decide) (by decide)]; exact H 28 (by decide) (by decide) (by decide) (by decide)
    · rw [J 0 (by decide) (by decide) (by decide) (by decide) (by decide), k0 _ (by decide), t8, k25]; exact hr8
    · rw [J 0 (by decide) (by decide) (by decide) (by decide) (by decide), k0 _ (by decide), t9, k25]; exact hr9
    · rw [J 0 (by decide) (by decide) (by decide) (by decide) (by decide), k0 _ (by decide)]
    · rw [hEF.2.2.1, k25]
    · rw [J 24 (by decide) (by decide) (by decide) (by decide) (by decide)]; exact H 24 (by decide) (by decide) (by decide) (by decide)
    · rw [J 31 (by decide) (by decide) (by decide) (by decide) (by decide)]; exact H 31 (by decide) (by decide) (by decide) (by decide)
    · rw [J 19 (by decide) (by decide) (by decide) (by decide) (by decide), e5]; rfl
    · rw [J 0 (by decide) (by decide) (by decide) (by decide) (by decide), k010, t12]
      exact ⟨_, by omega, rfl, rfl⟩
    · rw [J 0 (by decide) (by decide) (by decide) (by decide) (by decide), k0 _ (by decide), t13, k25]; exact hE2
    · rw [J 18 (by decide) (by decide) (by decide) (by decide) (by decide)]; exact H 18 (by decide) (by decide) (by decide) (by decide)
