def tdec (A : AS) (m : Int) : AS := up A 40 m 0 (if 0 < A 40 m 0 then A 40 m 0 - 1 else A 40 m 0)
theorem tdec_f {A : AS} {m : Int} {g : Nat} (h : g ≠ 40) : tdec A m g = A g := by funext i j; exact up_f h
def ttr2 (A : AS) (m : Int) : AS := if A 41 m 0 = 0 then ttry A m else A
noncomputable def tstep (A : AS) (m : Int) : AS := if A 39 m 0 = -1 then A else if tdec A m 40 m 0 ≠ 0 then tdec A m else cif (A 41 m 0 = 0 ∧ tfl (tdec A m) m) (tfal (tdec A m) m) (cif (roomy (ttr2 (tdec A m) m) m) (tsto (ttr2 (tdec A m) m) m) (ttr2 (tdec A m) m))
def tdone (A : AS) (m : Int) : Prop := A 39 m 0 ≠ -1 ∧ tdec A m 40 m 0 = 0 ∧ ¬ (A 41 m 0 = 0 ∧ tfl (tdec A m) m) ∧ roomy (ttr2 (tdec A m) m) m
noncomputable def tk1 (A : AS) : Nat → AS
  | 0 => A
  | n + 1 => tstep (tk1 A n) n
noncomputable def tkc (A : AS) : Nat → Int
  | 0 => 0
  | n + 1 => tkc A n + cif (tdone (tk1 A n) n) 1 0
def ttk (B : AS) (m : Int) : AS := if B 39 m 0 = -1 ∧ 0 < B 42 0 0 then tkn B m ((1 + pnc B (B 43 0 0 / 16) 4 + B 37 m 0 - 1).tdiv (B 37 m 0)) else B
def tk2 (A : AS) : Nat → AS
  | 0 => A
  | n + 1 => ttk (tk2 A n) n
noncomputable def tick1 (A : AS) : AS := tk2 (tk1 A (A 36 0 0).toNat) (A 36 0 0).toNat
noncomputable def tckn (A : AS) : Nat → AS
  | 0 => A
  | n + 1 => tick1 (tckn A n)
noncomputable def tckc (A : AS) : Nat → Int
  | 0 => 0
  | n + 1 => tckc A n + tkc (tckn A n) (tckn A n 36 0 0).toNat
/-- what holds between the machines' turns, after k turns of this call -/
def Tv (c k : Int) (A : AS) : Prop := IvV A ∧ IvS c A ∧ IvF A ∧ IvM (c + 1) A ∧ CcOk A A ∧ A 45 0 0 ≤ 120 * c + k ∧ A 46 0 0 ≤ 120 * c + k ∧ 0 ≤ A 57 0 0 ∧ A 57 0 0 ≤ 20000 * c + 160 * k ∧ 0 ≤ A 58 0 0 ∧ A 58 0 0 ≤ 20000 * c + 160 * k
theorem nm {L : List Nat} {f g : Nat} (hg : g ∈ L) (hf : f ∉ L) : g ≠ f := fun q => hf (q ▸ hg)
theorem tdec_Tv {c k : Int} {A : AS} (T : Tv c k A) {m : Int} (m0 : 0 ≤ m) (m1 : m < A 36 0 0) : Tv c k (tdec A m) := by
  obtain ⟨V, I, F, J, o, t1, t2, t3, t4, t5, t6⟩ := T
  have b := J.2.2.2.2.2.2.2.2.1 m m0 (by have := J.2.1; omega)
  refine ⟨V.of (fun g hg => tdec_f (nm hg (by decide))), I.of (fun g hg => tdec_f (nm hg (by decide))), F.of (fun g hg => tdec_f (nm hg (by decide))), J.s40 m1 (by split <;> omega) (by split <;> omega), ?_, ?_⟩
  · have := o.of (B := tdec A m) (tdec_f (by decide)) (tdec_f (by decide)) (tdec_f (by decide)) (tdec_f (by decide)) (tdec_f (by decide)) (tdec_f (by decide)) (tdec_f (by decide))
    unfold CcOk at *
    rw [tdec_f (g := 54) (by decide), tdec_f (g := 56) (by decide)]
    exact this
  · rw [tdec_f (g := 45) (by decide), tdec_f (g := 46) (by decide), tdec_f (g := 57) (by decide), tdec_f (g := 58) (by decide)]
    exact ⟨t1, t2, t3, t4, t5, t6⟩
theorem IvF.s44 {A : AS} (F : IvF A) {f v : Int} (v0 : 0 ≤ v) (v1 : v ≤ 3) : IvF (up A 44 f 0 v) := by
  have u : ∀ g, g ≠ 44 → up A 44 f 0 v g = A g := fun g hg => by funext i j; exact up_f hg
  have w : ∀ i, up A 44 f 0 v 44 i 0 = if i = f then v else A 44 i 0 := fun i => by rw [up_at]; simp
  unfold IvF actv exv at *
  rw [u 1 (by decide), u 2 (by decide), u 17 (by decide), u 18 (by decide), u 32 (by decide), u 33 (by decide), u 34 (by decide)]
  intro k k0 k1
  obtain ⟨a1, a2, a3, a4, a5, a6, a7⟩ := F k k0 k1
  rw [w]
  refine ⟨a1, a2, a3, a4, a5, ?_, ?_⟩
  · split <;> omega
  · split <;> omega
theorem CcOk.of2 {A B : AS} (o : CcOk A A) (e : ∀ g, g ∈ LC → B g = A g) : CcOk B B := by
  have o2 := o.of (e 1 (by decide)) (e 2 (by decide)) (e 3 (by decide)) (e 4 (by decide)) (e 5 (by decide)) (e 6 (by decide)) (e 7 (by decide))
  unfold CcOk at *
  rw [e 54 (by decide), e 56 (by decide)]
  exact o2
/-- of a machine that has a frame -/
theorem mach {c k : Int} {A : AS} (T : Tv c k A) {m : Int} (m0 : 0 ≤ m) (m1 : m < A 36 0 0) (hm : A 39 m 0 ≠ -1) : actv A (A 39 m 0) ∧ (∀ k, 0 ≤ k → k < A 42 0 0 → A 43 k 0 ≠ A 39 m 0) ∧ (∀ i, 0 ≤ i → i < 4 → A 39 i 0 = A 39 m 0 → i = m) ∧ (A 41 m 0 = 0 → A 44 (A 39 m 0) 0 ≤ 2) ∧ 0 ≤ A 44 (A 39 m 0) 0 := by
  obtain ⟨V, I, F, J, o, t⟩ := T
  obtain ⟨a1, a2, a3, a4, a5, a6, a7, a8, a9, a10, a11, a12, a13, a14, a15, a16⟩ := J
  have b := a9 m m0 (by omega)
  have hact : actv A (A 39 m 0) := by
    rcases b.1 with z | z
    · exact absurd z hm
    · exact z
  refine ⟨hact, fun k k0 k1 q => (a15 k k0 k1).2.2 m m0 (by omega) q.symm, fun i i0 i1 q => ?_, fun z => b.2.2.2.2 hm z, (F _ hact.1 hact.2.1).2.2.2.2.2.1⟩
  rcases Int.lt_trichotomy i m with z | z | z
  · exact absurd (q ▸ a12 i m i0 z (by omega) q) hm
  · exact z
  · exact absurd (a12 m i m0 z i1 q.symm) hm
theorem ttry_Tv {c k : Int} {A : AS} (T : Tv c k A) {m : Int} (m0 : 0 ≤ m) (m1 : m < A 36 0 0) (hm : A 39 m 0 ≠ -1) (h41 : A 41 m 0 = 0) : Tv c k (ttry A m) := by
  obtain ⟨h1, h2, h3, h4, h5⟩ := mach T m0 m1 hm
  obtain ⟨V, I, F, J, o, t1, t2, t3, t4, t5, t6⟩ := T
  have h6 := h4 h41
  refine ⟨V.of (fun g hg => ttry_f (nm hg (by decide)) (nm hg (by decide))), I.of (fun g hg => ttry_f (nm hg (by decide)) (nm hg (by decide))), ?_, ?_, o.of2 (fun g hg => ttry_f (nm hg (by decide)) (nm hg (by decide))), ?_⟩
  · refine IvF.s44 (F.of (fun g hg => by funext i j; exact up_f (nm hg (by decide)))) (by omega) (by omega)
  · have u : ∀ g, g ≠ 41 → up A 41 m 0 1 g = A g := fun g hg => by funext i j; exact up_f hg
    refine IvM.s44 (J.s41 m1) (Or.inr ⟨?_, fun i i0 i1 q => ?_⟩)
    · rw [u 42 (by decide), u 43 (by decide)]; exact h2
    · rw [u 39 (by decide)] at q
      rw [h3 i i0 i1 q, up_s]
  · rw [ttry_f (g := 45) (by decide) (by decide), ttry_f (g := 46) (by decide) (by decide), ttry_f (g := 57) (by decide) (by decide), ttry_f (g := 58) (by decide) (by decide)]
    exact ⟨t1, t2, t3, t4, t5, t6⟩
theorem tfal_Tv {c k : Int} {A : AS} (T : Tv c k A) (hk : 0 ≤ k ∧ k < 120) {m : Int} (m0 : 0 ≤ m) (m1 : m < A 36 0 0) (hm : A 39 m 0 ≠ -1) (h41 : A 41 m 0 = 0) : Tv c (k + 1) (tfal A m) := by
  obtain ⟨h1, h2, h3, h4, h5⟩ := mach T m0 m1 hm
  have T2 := ttry_Tv T m0 m1 hm h41
  obtain ⟨V, I, F, J, o, t1, t2, t3, t4, t5, t6⟩ := T
  obtain ⟨V2, I2, F2, J2, o2, -⟩ := T2
  have h6 := h4 h41
  have j5 := J.2.2.2.2.1
  have j7 := J.2.2.2.2.2.2.1
  have e45 : tfa A m 45 0 0 = A 45 0 0 + 1 := by rw [tfa, up_f (by decide), up_s]
  have e46 : tfa A m 46 0 0 = A 46 0 0 := by rw [tfa_f (by decide) (by decide) (by decide) (by decide)]
  have J3 : IvM (c + 1) (tfa A m) := (J2.s45 (v := A 45 0 0 + 1) (by omega) (by omega)).rel
  have w39 : ∀ i, tfa A m 39 i 0 = if i = m then -1 else A 39 i 0 := fun i => by
    rw [tfa, up_at, up_f (by decide), ttry_f (by decide) (by decide)]; simp
  refine ⟨V.of (fun g hg => tfal_f (fun q => by revert hg q; revert g; decide)), I.of (fun g hg => tfal_f (fun q => by revert hg q; revert g; decide)), ?_, ?_, o.of2 (fun g hg => tfal_f (fun q => by revert hg q; revert g; decide)), ?_⟩
  · refine F2.of (fun g hg => ?_)
    have z41 : g ≠ 41 := nm hg (by decide)
    have z39 : g ≠ 39 := nm hg (by decide)
    have z45 : g ≠ 45 := nm hg (by decide)
    have ea : tfa A m g = ttry A m g := by funext i j; rw [tfa, up_f z39, up_f z45]
    unfold tfal
    split
    · funext i j; rw [up_f (nm hg (by decide)), ea]
    · rw [enq_f (nm hg (by decide)) (nm hg (by decide)), ea]
  · unfold tfal
    split
    · exact J3.s46 (by omega) (by omega)
    · next z =>
      refine J3.enq ?_ ?_ ?_ ?_
      · unfold actv; rw [tfa_f (g := 17) (by decide) (by decide) (by decide) (by decide), tfa_f (g := 18) (by decide) (by decide) (by decide) (by decide)]; exact h1
      · rw [tfa, up_f (by decide), up_f (by decide), ttry, up_s]; omega
      · rw [tfa_f (g := 42) (by decide) (by decide) (by decide) (by decide), tfa_f (g := 43) (by decide) (by decide) (by decide) (by decide)]; exact h2
      · intro i i0 i1
        rw [w39]
        split
        · have := h1.1; omega
        · next y => exact fun q => y (h3 i i0 i1 q)
  · rw [show tfal A m 57 = A 57 from tfal_f (by decide), show tfal A m 58 = A 58 from tfal_f (by decide)]
    unfold tfal
    split
    · rw [up_f (show (45 : Nat) ≠ 46 by decide), up_s, e45]; omega
    · rw [enq_f (g := 45) (by decide) (by decide), enq_f (g := 46) (by decide) (by decide), e45, e46]; omega
theorem tsto_f {A : AS} {m : Int} {g : Nat} (h1 : g ≠ 32) (h2 : g ≠ 33) (h3 : g ≠ 34) (h4 : g ≠ 39) : tsto A m g = ims A 1 (A 39 m 0 / 16) (plc A (A 39 m 0)) g := by
  funext i j; rw [tsto, up_f h4, up_f h2, up_f h1, tst1, upr_f h3]
theorem tsto_Tv {c k : Int} {A : AS} (T : Tv c k A) (hk : 0 ≤ k ∧ k < 120) {m : Int} (m0 : 0 ≤ m) (m1 : m < A 36 0 0) (hm : A 39 m 0 ≠ -1) : Tv c (k + 1) (tsto A m) := by
  obtain ⟨h1, h2, h3, h4, h5⟩ := mach T m0 m1 hm
  obtain ⟨V, I, F, J, o, t1, t2, t3, t4, t5, t6⟩ := T
  have hn := actv_name I h1
  have hs := plc_spec h1
  have hP : isP A (A 39 m 0 / 16) (plc A (A 39 m 0)) := ⟨hn.1, hn.2.2.1, hs.1, hs.2.1⟩
  have C := ims_cst (q := 1) V I hP o 4 (by omega)
  obtain ⟨C1, C2, C3, C4, C5, C6⟩ := C
  have CB : BEq A (ims A 1 (A 39 m 0 / 16) (plc A (A 39 m 0))) := C1
  have h28 : 1 ≤ A 28 (A 39 m 0 / 16) 0 ∧ A 28 (A 39 m 0 / 16) 0 ≤ 4 := by have := I.2.2.1 _ hn.1 hn.2.1; have := I.2.2.2.1 _ hn.1 hn.2.2.1; omega
  have i3 := I.2.2.1 _ hn.1 hn.2.1
  have hcs := costS_rng h28
  have him := imv_rng V I hP
  have G : ∀ g, g ≠ 32 → g ≠ 33 → g ≠ 34 → g ≠ 39 → g ≠ 54 → g ≠ 56 → g ≠ 57 → g ≠ 58 → tsto A m g = A g := fun g g1 g2 g3 g4 g5 g6 g7 g8 => by rw [tsto_f g1 g2 g3 g4, CB g g5 g6 g7 g8]
  have GL : ∀ L : List Nat, 32 ∉ L → 33 ∉ L → 34 ∉ L → 39 ∉ L → 54 ∉ L → 56 ∉ L → 57 ∉ L → 58 ∉ L → ∀ g, g ∈ L → tsto A m g = A g := fun L l1 l2 l3 l4 l5 l6 l7 l8 g hg => G g (nm hg l1) (nm hg l2) (nm hg l3) (nm hg l4) (nm hg l5) (nm hg l6) (nm hg l7) (nm hg l8)
  have w32 : ∀ i, tsto A m 32 i 0 = if i = A 39 m 0 then imv A (A 39 m 0 / 16) (plc A (A 39 m 0)) else A 32 i 0 := fun i => by
    rw [tsto, up_f (by decide), up_f (by decide), up_at, tst1, upr_f (by decide), CB 32 (by decide) (by decide) (by decide) (by decide)]; simp
  have w33 : ∀ i, tsto A m 33 i 0 = if i = A 39 m 0 then costS A (A 39 m 0 / 16) else A 33 i 0 := fun i => by
    rw [tsto, up_f (by decide), up_at, up_f (by decide), tst1, upr_f (by decide), CB 33 (by decide) (by decide) (by decide) (by decide)]; simp
  have w34 : ∀ i j, 0 ≤ j → j < 22 → tsto A m 34 i j = if i = A 39 m 0 then nowv A (A 39 m 0 / 16) (plc A (A 39 m 0)) j else A 34 i j := fun i j j0 j1 => by
    rw [tsto, up_f (by decide), up_f (by decide), up_f (by decide), tst1, upr_at, CB 34 (by decide) (by decide) (by decide) (by decide)]
    by_cases z : i = A 39 m 0
    · rw [if_pos z, if_pos z, if_pos ⟨j0, j1⟩]
    · rw [if_neg z, if_neg z]
  refine ⟨V.of (GL _ (by decide) (by decide) (by decide) (by decide) (by decide) (by decide) (by decide) (by decide)), I.of (GL _ (by decide) (by decide) (by decide) (by decide) (by decide) (by decide) (by decide) (by decide)), ?_, ?_, ?_, ?_⟩
  · unfold IvF actv exv
    rw [G 1 (by decide) (by decide) (by decide) (by decide) (by decide) (by decide) (by decide) (by decide), G 2 (by decide) (by decide) (by decide) (by decide) (by decide) (by decide) (by decide) (by decide), G 17 (by decide) (by decide) (by decide) (by decide) (by decide) (by decide) (by decide) (by decide), G 18 (by decide) (by decide) (by decide) (by decide) (by decide) (by decide) (by decide) (by decide), G 44 (by decide) (by decide) (by decide) (by decide) (by decide) (by decide) (by decide) (by decide)]
    intro i i0 i1
    obtain ⟨a1, a2, a3, a4, a5, a6, a7⟩ := F i i0 i1
    rw [w32, w33]
    by_cases z : i = A 39 m 0
    · rw [if_pos z, if_pos z, z]
      refine ⟨by omega, by omega, hcs.1, hcs.2, fun _ => ⟨h1, ?_⟩, ?_, ?_⟩
      · rw [w34 _ 20 (by decide) (by decide), w34 _ 21 (by decide) (by decide), if_pos rfl, if_pos rfl]
        have n20 : nowv A (A 39 m 0 / 16) (plc A (A 39 m 0)) 20 = A 27 (A 39 m 0 / 16) 0 := rfl
        have n21 : nowv A (A 39 m 0 / 16) (plc A (A 39 m 0)) 21 = A 28 (A 39 m 0 / 16) 0 := rfl
        rw [n20, n21]
        refine ⟨by omega, by omega, h28.1, h28.2, rfl, fun k k0 k1 => ?_⟩
        rw [w34 _ k (by omega) (by omega), if_pos rfl, nowv_pin k1]
        refine ⟨I.2.2.2.2.2.2.2.1 _ k hn.1 hn.2.1 k0 k1, fun l l0 l1 => ?_⟩
        rw [w34 _ _ (by omega) (by omega), if_pos rfl, nowv_ch k0 k1 l0 l1]
        split
        · omega
        · exact chn_rng I hP (by omega) (by omega)
      · rw [← z]; exact a6
      · rw [← z]; exact a7
    · rw [if_neg z, if_neg z]
      refine ⟨a1, a2, a3, a4, fun q => ?_, a6, a7⟩
      obtain ⟨b1, b2, b3, b4, b5, b6, b7⟩ := a5 q
      rw [w34 _ 20 (by decide) (by decide), w34 _ 21 (by decide) (by decide), if_neg z, if_neg z]
      refine ⟨b1, b2, b3, b4, b5, b6, fun k k0 k1 => ?_⟩
      rw [w34 _ k (by omega) (by omega), if_neg z]
      refine ⟨(b7 k k0 k1).1, fun l l0 l1 => ?_⟩
      rw [w34 _ _ (by omega) (by omega), if_neg z]
      exact (b7 k k0 k1).2 l l0 l1
  · refine (J.rel (m := m)).of (fun g hg => ?_)
    by_cases z : g = 39
    · subst z
      funext i j
      rw [tsto, up_at, up_f (by decide), up_f (by decide), tst1, upr_f (by decide), CB 39 (by decide) (by decide) (by decide) (by decide), up_at]
    · rw [GL [17, 18, 35, 36, 37, 38, 40, 41, 42, 43, 44, 45, 46] (by decide) (by decide) (by decide) (by decide) (by decide) (by decide) (by decide) (by decide) g (by simp only [LM, List.mem_cons, List.not_mem_nil, or_false] at hg ⊢; omega)]
      funext i j
      exact (up_f z).symm
  · have o3 := CcOk.of (B := tsto A m) C2 (G 1 (by decide) (by decide) (by decide) (by decide) (by decide) (by decide) (by decide) (by decide)) (G 2 (by decide) (by decide) (by decide) (by decide) (by decide) (by decide) (by decide) (by decide)) (G 3 (by decide) (by decide) (by decide) (by decide) (by decide) (by decide) (by decide) (by decide)) (G 4 (by decide) (by decide) (by decide) (by decide) (by decide) (by decide) (by decide) (by decide)) (G 5 (by decide) (by decide) (by decide) (by decide) (by decide) (by decide) (by decide) (by decide)) (G 6 (by decide) (by decide) (by decide) (by decide) (by decide) (by decide) (by decide) (by decide)) (G 7 (by decide) (by decide) (by decide) (by decide) (by decide) (by decide) (by decide) (by decide))
    have f54 : tsto A m 54 = ims A 1 (A 39 m 0 / 16) (plc A (A 39 m 0)) 54 := tsto_f (by decide) (by decide) (by decide) (by decide)
    have f56 : tsto A m 56 = ims A 1 (A 39 m 0 / 16) (plc A (A 39 m 0)) 56 := tsto_f (by decide) (by decide) (by decide) (by decide)
    unfold CcOk at o3 ⊢
    rw [f54, f56]
    exact o3
  · rw [G 45 (by decide) (by decide) (by decide) (by decide) (by decide) (by decide) (by decide) (by decide), G 46 (by decide) (by decide) (by decide) (by decide) (by decide) (by decide) (by decide) (by decide), tsto_f (g := 57) (by decide) (by decide) (by decide) (by decide), tsto_f (g := 58) (by decide) (by decide) (by decide) (by decide)]
    have e : ims A 1 (A 39 m 0 / 16) (plc A (A 39 m 0)) = fold (imf A 1 (A 39 m 0 / 16) (plc A (A 39 m 0))) 4 A := rfl
    rw [e]
    omega
theorem ttr2_Tv {c k : Int} {A : AS} (T : Tv c k A) {m : Int} (m0 : 0 ≤ m) (m1 : m < A 36 0 0) (hm : A 39 m 0 ≠ -1) : Tv c k (ttr2 A m) := by
  unfold ttr2
  split
  · next z => exact ttry_Tv T m0 m1 hm z
  · exact T
theorem ttr2_f {A : AS} {m : Int} {g : Nat} (h1 : g ≠ 41) (h2 : g ≠ 44) : ttr2 A m g = A g := by
  unfold ttr2
  split
  · exact ttry_f h1 h2
  · rfl
theorem Tv.mono {c k k' : Int} {A : AS} (T : Tv c k A) (h : k ≤ k') : Tv c k' A := by
  obtain ⟨V, I, F, J, o, t1, t2, t3, t4, t5, t6⟩ := T
  exact ⟨V, I, F, J, o, by omega, by omega, t3, by omega, t5, by omega⟩
theorem tstep_Tv {c k : Int} {A : AS} (T : Tv c k A) (hk : 0 ≤ k ∧ k < 120) {m : Int} (m0 : 0 ≤ m) (m1 : m < A 36 0 0) : Tv c (k + 1) (tstep A m) := by
  have D := tdec_Tv T m0 m1
  have d36 : tdec A m 36 = A 36 := tdec_f (by decide)
  have d39 : tdec A m 39 = A 39 := tdec_f (by decide)
  have d41 : tdec A m 41 = A 41 := tdec_f (by decide)
  unfold tstep
  split
  · exact T.mono (by omega)
  · next z =>
    split
    · exact D.mono (by omega)
    · by_cases y : A 41 m 0 = 0 ∧ tfl (tdec A m) m
      · rw [cif_pos y]
        exact tfal_Tv D hk m0 (by rw [d36]; exact m1) (by rw [d39]; exact z) (by rw [d41]; exact y.1)
      · rw [cif_neg y]
        have D2 := ttr2_Tv D m0 (by rw [d36]; exact m1) (by rw [d39]; exact z)
        by_cases x : roomy (ttr2 (tdec A m) m) m
        · rw [cif_pos x]
          exact tsto_Tv D2 hk m0 (by rw [ttr2_f (by decide) (by decide), d36]; exact m1) (by rw [ttr2_f (by decide) (by decide), d39]; exact z)
        · rw [cif_neg x]
          exact D2.mono (by omega)
theorem tstep_f {c k : Int} {A : AS} (T : Tv c k A) {m : Int} (m0 : 0 ≤ m) (m1 : m < A 36 0 0) {g : Nat} (hg : g ∉ [32, 33, 34, 39, 40, 41, 42, 43, 44, 45, 46, 54, 56, 57, 58]) : tstep A m g = A g := by
  simp only [List.mem_cons, List.not_mem_nil, or_false, not_or] at hg
  obtain ⟨g1, g2, g3, g4, g5, g6, g7, g8, g9, g10, g11, g12, g13, g14, g15⟩ := hg
  have D := tdec_Tv T m0 m1
  have d36 : tdec A m 36 = A 36 := tdec_f (by decide)
  have d39 : tdec A m 39 = A 39 := tdec_f (by decide)
  unfold tstep
  split
  · rfl
  · next z =>
    split
    · exact tdec_f g5
    · by_cases y : A 41 m 0 = 0 ∧ tfl (tdec A m) m
      · rw [cif_pos y, tfal_f (by simp [g4, g6, g7, g8, g9, g10, g11]), tdec_f g5]
      · rw [cif_neg y]
        have D2 := ttr2_Tv D m0 (by rw [d36]; exact m1) (by rw [d39]; exact z)
        by_cases x : roomy (ttr2 (tdec A m) m) m
        · rw [cif_pos x, tsto_f g1 g2 g3 g4]
          obtain ⟨h1, h2, h3, h4, h5⟩ := mach D2 m0 (by rw [ttr2_f (by decide) (by decide), d36]; exact m1) (by rw [ttr2_f (by decide) (by decide), d39]; exact z)
          have hn := actv_name D2.2.1 h1
          have hs := plc_spec h1
          have C := ims_cst (q := 1) D2.1 D2.2.1 (s := ttr2 (tdec A m) m 39 m 0 / 16) (p := plc (ttr2 (tdec A m) m) (ttr2 (tdec A m) m 39 m 0)) ⟨hn.1, hn.2.2.1, hs.1, hs.2.1⟩ D2.2.2.2.2.1 4 (by omega)
          exact (C.1 g g12 g13 g14 g15).trans ((ttr2_f g6 g9).trans (tdec_f g5))
        · rw [cif_neg x, ttr2_f g6 g9, tdec_f g5]
theorem tk1_Tv {c k : Int} {A : AS} (T : Tv c k A) (k0 : 0 ≤ k) : ∀ n : Nat, (n : Int) ≤ A 36 0 0 → k + n ≤ 120 → Tv c (k + n) (tk1 A n) ∧ ∀ g, g ∉ [32, 33, 34, 39, 40, 41, 42, 43, 44, 45, 46, 54, 56, 57, 58] → tk1 A n g = A g
  | 0, _, _ => ⟨by rw [show k + ((0 : Nat) : Int) = k by omega]; exact T, fun _ _ => rfl⟩
  | n + 1, hn, hk => by
    obtain ⟨h1, h2⟩ := tk1_Tv T k0 n (by omega) (by omega)
    have e36 : tk1 A n 36 0 0 = A 36 0 0 := by rw [h2 36 (by decide)]
    refine ⟨?_, fun g hg => ?_⟩
    · rw [show k + ((n + 1 : Nat) : Int) = k + n + 1 by omega]
      exact tstep_Tv h1 (by omega) (by omega) (by omega)
    · rw [tk1, tstep_f h1 (by omega) (by omega) hg, h2 g hg]
theorem ttk_f {B : AS} {m : Int} {g : Nat} (hg : g ∉ [39, 40, 41, 42, 43]) : ttk B m g = B g := by
  unfold ttk
  split
  · exact tkn_f hg
  · rfl
theorem ttk_x {c k : Int} {B : AS} (T : Tv c k B) {m : Int} (m0 : 0 ≤ m) (m1 : m < B 36 0 0) : 0 ≤ (1 + pnc B (B 43 0 0 / 16) 4 + B 37 m 0 - 1).tdiv (B 37 m 0) ∧ (1 + pnc B (B 43 0 0 / 16) 4 + B 37 m 0 - 1).tdiv (B 37 m 0) ≤ 5 := by
  have hp := pnc_le (A := B) (s := B 43 0 0 / 16) 4
  have h37 := T.2.2.2.1.2.2.2.2.2.2.2.2.2.1 m m0 m1
  rw [Int.tdiv_eq_ediv_of_nonneg (by omega)]
  generalize pnc B (B 43 0 0 / 16) 4 = u at *
  rcases (by omega : B 37 m 0 = 1 ∨ B 37 m 0 = 2 ∨ B 37 m 0 = 3) with z | z | z <;> rw [z] <;> omega
theorem ttk_Tv {c k : Int} {B : AS} (T : Tv c k B) {m : Int} (m0 : 0 ≤ m) (m1 : m < B 36 0 0) : Tv c k (ttk B m) := by
  have hx := ttk_x T m0 m1
  have G : ∀ L : List Nat, 39 ∉ L → 40 ∉ L → 41 ∉ L → 42 ∉ L → 43 ∉ L → ∀ g, g ∈ L → ttk B m g = B g := fun L l1 l2 l3 l4 l5 g hg => ttk_f (by simp [nm hg l1, nm hg l2, nm hg l3, nm hg l4, nm hg l5])
  obtain ⟨V, I, F, J, o, t⟩ := T
  refine ⟨V.of (G _ (by decide) (by decide) (by decide) (by decide) (by decide)), I.of (G _ (by decide) (by decide) (by decide) (by decide) (by decide)), F.of (G _ (by decide) (by decide) (by decide) (by decide) (by decide)), ?_, o.of2 (G _ (by decide) (by decide) (by decide) (by decide) (by decide)), ?_⟩
  · unfold ttk
    split
    · next z => exact IvM.take J m0 m1 z.1 z.2 hx.1 hx.2
    · exact J
  · rw [ttk_f (g := 45) (by decide), ttk_f (g := 46) (by decide), ttk_f (g := 57) (by decide), ttk_f (g := 58) (by decide)]; exact t
theorem tk2_Tv {c k : Int} {A : AS} (T : Tv c k A) : ∀ n : Nat, (n : Int) ≤ A 36 0 0 → Tv c k (tk2 A n) ∧ ∀ g, g ∉ [39, 40, 41, 42, 43] → tk2 A n g = A g
  | 0, _ => ⟨T, fun _ _ => rfl⟩
  | n + 1, hn => by
    obtain ⟨h1, h2⟩ := tk2_Tv T n (by omega)
    have e36 : tk2 A n 36 0 0 = A 36 0 0 := by rw [h2 36 (by decide)]
    exact ⟨ttk_Tv h1 (by omega) (by omega), fun g hg => by rw [tk2, ttk_f hg, h2 g hg]⟩
theorem tick1_Tv {c k : Int} {A : AS} (T : Tv c k A) (k0 : 0 ≤ k) (hk : k + 4 ≤ 120) : Tv c (k + 4) (tick1 A) ∧ ∀ g, g ∉ [32, 33, 34, 39, 40, 41, 42, 43, 44, 45, 46, 54, 56, 57, 58] → tick1 A g = A g := by
  have a1 := T.2.2.2.1.1
  have a2 := T.2.2.2.1.2.1
  obtain ⟨h1, h2⟩ := tk1_Tv T k0 (A 36 0 0).toNat (by omega) (by omega)
  have e36 : tk1 A (A 36 0 0).toNat 36 0 0 = A 36 0 0 := by rw [h2 36 (by decide)]
  obtain ⟨h3, h4⟩ := tk2_Tv h1 (A 36 0 0).toNat (by omega)
  refine ⟨h3.mono (by omega), fun g hg => ?_⟩
  rw [tick1, h4 g (fun q => hg (by simp only [List.mem_cons, List.not_mem_nil, or_false] at q ⊢; omega)), h2 g hg]
theorem tckn_Tv {c : Int} {A : AS} (T : Tv c 0 A) : ∀ n : Nat, n ≤ 30 → Tv c (4 * n) (tckn A n) ∧ ∀ g, g ∉ [32, 33, 34, 39, 40, 41, 42, 43, 44, 45, 46, 54, 56, 57, 58] → tckn A n g = A g
  | 0, _ => ⟨T, fun _ _ => rfl⟩
  | n + 1, hn => by
    obtain ⟨h1, h2⟩ := tckn_Tv T n (by omega)
    obtain ⟨h3, h4⟩ := tick1_Tv h1 (by omega) (by omega)
    exact ⟨by rw [show 4 * ((n + 1 : Nat) : Int) = 4 * n + 4 by omega]; exact h3, fun g hg => by rw [tckn, h4 g hg, h2 g hg]⟩
theorem tkc_bnd {A : AS} : ∀ n : Nat, 0 ≤ tkc A n ∧ tkc A n ≤ n
  | 0 => by simp [tkc]
  | n + 1 => by
    have := tkc_bnd (A := A) n
    simp only [tkc]
    by_cases z : tdone (tk1 A n) n
    · rw [cif_pos z]; omega
    · rw [cif_neg z]; omega
