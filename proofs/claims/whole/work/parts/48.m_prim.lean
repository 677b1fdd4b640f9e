-- what the invariants speak of
abbrev LV : List Nat := [1, 2, 3, 4, 5, 6, 7, 8, 9, 10]
abbrev LD : List Nat := [1, 2, 8, 11, 12, 13, 14, 15]
abbrev LSh : List Nat := [1, 2, 16, 17, 18, 20, 21, 22, 23, 24, 25, 27, 28, 29, 30, 31]
abbrev LF : List Nat := [1, 2, 17, 18, 32, 33, 34, 44]
abbrev LM : List Nat := [17, 18, 35, 36, 37, 38, 39, 40, 41, 42, 43, 44, 45, 46]
abbrev LN : List Nat := [17, 18, 47, 48, 49, 50, 51, 52]
abbrev LC : List Nat := [1, 2, 3, 4, 5, 6, 7, 8, 54, 56, 57, 58]
theorem up_nm {A : AS} {L : List Nat} {f g : Nat} {i j v : Int} (hg : g ∈ L) (hf : f ∉ L) : up A f i j v g = A g := by
  funext i' j'
  exact up_f (fun q => hf (q ▸ hg))
theorem IvV.of {A B : AS} (I : IvV A) (e : ∀ g, g ∈ LV → B g = A g) : IvV B := by
  unfold IvV exv at *
  rw [e 1 (by decide), e 2 (by decide), e 3 (by decide), e 4 (by decide), e 5 (by decide), e 6 (by decide), e 7 (by decide), e 8 (by decide), e 9 (by decide), e 10 (by decide)]
  exact I
theorem IvD.of {A B : AS} (I : IvD A) (e : ∀ g, g ∈ LD → B g = A g) : IvD B := by
  unfold IvD exv at *
  rw [e 1 (by decide), e 2 (by decide), e 8 (by decide), e 11 (by decide), e 12 (by decide), e 13 (by decide), e 14 (by decide), e 15 (by decide)]
  exact I
theorem IvS.of {c : Int} {A B : AS} (I : IvS c A) (e : ∀ g, g ∈ LSh → B g = A g) : IvS c B := by
  unfold IvS actv exv at *
  rw [e 1 (by decide), e 2 (by decide), e 16 (by decide), e 17 (by decide), e 18 (by decide), e 20 (by decide), e 21 (by decide), e 22 (by decide), e 23 (by decide), e 24 (by decide), e 25 (by decide), e 27 (by decide), e 28 (by decide), e 29 (by decide), e 30 (by decide), e 31 (by decide)]
  exact I
theorem IvF.of {A B : AS} (I : IvF A) (e : ∀ g, g ∈ LF → B g = A g) : IvF B := by
  unfold IvF actv exv at *
  rw [e 1 (by decide), e 2 (by decide), e 17 (by decide), e 18 (by decide), e 32 (by decide), e 33 (by decide), e 34 (by decide), e 44 (by decide)]
  exact I
theorem IvM.of {c : Int} {A B : AS} (I : IvM c A) (e : ∀ g, g ∈ LM → B g = A g) : IvM c B := by
  unfold IvM actv at *
  rw [e 17 (by decide), e 18 (by decide), e 35 (by decide), e 36 (by decide), e 37 (by decide), e 38 (by decide), e 39 (by decide), e 40 (by decide), e 41 (by decide), e 42 (by decide), e 43 (by decide), e 44 (by decide), e 45 (by decide), e 46 (by decide)]
  exact I
theorem IvN.of {A B : AS} (I : IvN A) (e : ∀ g, g ∈ LN → B g = A g) : IvN B := by
  unfold IvN actv at *
  rw [e 17 (by decide), e 18 (by decide), e 47 (by decide), e 48 (by decide), e 49 (by decide), e 50 (by decide), e 51 (by decide), e 52 (by decide)]
  exact I
theorem cns_of {A B : AS} (e5 : B 5 = A 5) (v : Int) (r : Int → Int) : ∀ n : Nat, cns B v n r = cns A v n r
  | 0 => rfl
  | n + 1 => by rw [cns, cns, cns_of e5 v r n, e5]
theorem vlf_of {A B : AS} (e3 : B 3 = A 3) (e4 : B 4 = A 4) (e5 : B 5 = A 5) (e6 : B 6 = A 6) (e7 : B 7 = A 7) : ∀ (n : Nat) (v : Int) (r : Int → Int), vlf B n v r = vlf A n v r
  | 0, _, _ => rfl
  | n + 1, v, r => by
    rw [vlf, vlf]
    unfold vsm
    rw [cns_of e5, e3, e4, e6, e7]
    congr 2
    refine congrFun (congrArg sm ?_) _
    funext i
    rw [vlf_of e3 e4 e5 e6 e7 n]
theorem vl_of {A B : AS} (e3 : B 3 = A 3) (e4 : B 4 = A 4) (e5 : B 5 = A 5) (e6 : B 6 = A 6) (e7 : B 7 = A 7) (v : Int) (r : Int → Int) : vl B v r = vl A v r := vlf_of e3 e4 e5 e6 e7 4 v r
theorem CcOk.of {A B C : AS} (I : CcOk A C) (e1 : B 1 = A 1) (e2 : B 2 = A 2) (e3 : B 3 = A 3) (e4 : B 4 = A 4) (e5 : B 5 = A 5) (e6 : B 6 = A 6) (e7 : B 7 = A 7) : CcOk B C := by
  unfold CcOk exv at *
  rw [e1, e2]
  simp only [vl_of e3 e4 e5 e6 e7]
  exact I
theorem IvC.of {c : Int} {A B : AS} (I : IvC c A) (e : ∀ g, g ∈ LC → B g = A g) : IvC c B := by
  obtain ⟨o, b⟩ := I
  have o2 := o.of (e 1 (by decide)) (e 2 (by decide)) (e 3 (by decide)) (e 4 (by decide)) (e 5 (by decide)) (e 6 (by decide)) (e 7 (by decide))
  refine ⟨?_, ?_⟩
  · unfold CcOk at *
    rw [e 54 (by decide), e 56 (by decide)]
    exact o2
  · rw [e 57 (by decide), e 58 (by decide)]
    exact b
theorem BEq.lv {A B : AS} (e : BEq A B) {L : List Nat} (hL : 54 ∉ L ∧ 56 ∉ L ∧ 57 ∉ L ∧ 58 ∉ L) : ∀ g, g ∈ L → B g = A g := fun g hg => e g (fun q => hL.1 (q ▸ hg)) (fun q => hL.2.1 (q ▸ hg)) (fun q => hL.2.2.1 (q ▸ hg)) (fun q => hL.2.2.2 (q ▸ hg))
theorem CcOk.self {A B : AS} (I : CcOk A B) (e : BEq A B) : CcOk B B := I.of (e 1 (by decide) (by decide) (by decide) (by decide)) (e 2 (by decide) (by decide) (by decide) (by decide)) (e 3 (by decide) (by decide) (by decide) (by decide)) (e 4 (by decide) (by decide) (by decide) (by decide)) (e 5 (by decide) (by decide) (by decide) (by decide)) (e 6 (by decide) (by decide) (by decide) (by decide)) (e 7 (by decide) (by decide) (by decide) (by decide))
-- the primitives of machines and queue
theorem IvM.cnt {c c' : Int} {A : AS} (I : IvM c A) (h45 : A 45 0 0 ≤ 120 * c') (h46 : A 46 0 0 ≤ 120 * c') : IvM c' A := by
  obtain ⟨a1, a2, a3, a4, a5, a6, a7, a8, a9⟩ := I
  exact ⟨a1, a2, a3, a4, a5, h45, a7, h46, a9⟩
theorem IvM.rel {c : Int} {A : AS} (I : IvM c A) {m : Int} : IvM c (up A 39 m 0 (-1)) := by
  obtain ⟨a1, a2, a3, a4, a5, a6, a7, a8, a9, a10, a11, a12, a13, a14, a15, a16⟩ := I
  have u : ∀ g, g ≠ 39 → up A 39 m 0 (-1) g = A g := fun g hg => by funext i j; exact up_f hg
  have w : ∀ i, up A 39 m 0 (-1) 39 i 0 = if i = m then -1 else A 39 i 0 := fun i => by rw [up_at]; simp
  unfold IvM actv
  rw [u 17 (by decide), u 18 (by decide), u 35 (by decide), u 36 (by decide), u 37 (by decide), u 38 (by decide), u 40 (by decide), u 41 (by decide), u 42 (by decide), u 43 (by decide), u 44 (by decide), u 45 (by decide), u 46 (by decide)]
  simp only [w]
  refine ⟨a1, a2, a3, a4, a5, a6, a7, a8, fun k k0 k1 => ?_, a10, fun k k0 k1 => ?_, fun k k' k0 k1 k2 => ?_, a13, a14, fun k k0 k1 => ⟨(a15 k k0 k1).1, (a15 k k0 k1).2.1, fun i i0 i1 => ?_⟩, a16⟩
  · obtain ⟨b1, b2, b3, b4, b5⟩ := a9 k k0 k1
    split
    · exact ⟨Or.inl rfl, b2, b3, b4, fun q => absurd rfl q⟩
    · exact ⟨b1, b2, b3, b4, b5⟩
  · have := a11 k k0 k1
    split
    · exact ⟨rfl, this.2⟩
    · exact this
  · intro q
    by_cases z : k = m
    · rw [if_pos z]
    · rw [if_neg z] at q ⊢
      by_cases y : k' = m
      · rw [if_pos y] at q; exact q
      · rw [if_neg y] at q; exact a12 k k' k0 k1 k2 q
  · have := (a15 k k0 k1).2.2 i i0 i1
    have h0 := (a15 k k0 k1).1.1
    split
    · omega
    · exact this
theorem IvM.s40 {c : Int} {A : AS} (I : IvM c A) {m v : Int} (m1 : m < A 36 0 0) (v0 : 0 ≤ v) (v1 : v ≤ 5) : IvM c (up A 40 m 0 v) := by
  obtain ⟨a1, a2, a3, a4, a5, a6, a7, a8, a9, a10, a11, a12, a13, a14, a15, a16⟩ := I
  have u : ∀ g, g ≠ 40 → up A 40 m 0 v g = A g := fun g hg => by funext i j; exact up_f hg
  have w : ∀ i, up A 40 m 0 v 40 i 0 = if i = m then v else A 40 i 0 := fun i => by rw [up_at]; simp
  unfold IvM actv
  rw [u 17 (by decide), u 18 (by decide), u 35 (by decide), u 36 (by decide), u 37 (by decide), u 38 (by decide), u 39 (by decide), u 41 (by decide), u 42 (by decide), u 43 (by decide), u 44 (by decide), u 45 (by decide), u 46 (by decide)]
  simp only [w]
  refine ⟨a1, a2, a3, a4, a5, a6, a7, a8, fun k k0 k1 => ?_, a10, fun k k0 k1 => ?_, a12, a13, a14, a15, a16⟩
  · obtain ⟨b1, b2, b3, b4, b5⟩ := a9 k k0 k1
    split
    · exact ⟨b1, v0, v1, b4, b5⟩
    · exact ⟨b1, b2, b3, b4, b5⟩
  · rw [if_neg (by omega)]
    exact a11 k k0 k1
theorem IvM.s41 {c : Int} {A : AS} (I : IvM c A) {m : Int} (m1 : m < A 36 0 0) : IvM c (up A 41 m 0 1) := by
  obtain ⟨a1, a2, a3, a4, a5, a6, a7, a8, a9, a10, a11, a12, a13, a14, a15, a16⟩ := I
  have u : ∀ g, g ≠ 41 → up A 41 m 0 1 g = A g := fun g hg => by funext i j; exact up_f hg
  have w : ∀ i, up A 41 m 0 1 41 i 0 = if i = m then 1 else A 41 i 0 := fun i => by rw [up_at]; simp
  unfold IvM actv
  rw [u 17 (by decide), u 18 (by decide), u 35 (by decide), u 36 (by decide), u 37 (by decide), u 38 (by decide), u 39 (by decide), u 40 (by decide), u 42 (by decide), u 43 (by decide), u 44 (by decide), u 45 (by decide), u 46 (by decide)]
  simp only [w]
  refine ⟨a1, a2, a3, a4, a5, a6, a7, a8, fun k k0 k1 => ?_, a10, fun k k0 k1 => ?_, a12, a13, a14, a15, a16⟩
  · obtain ⟨b1, b2, b3, b4, b5⟩ := a9 k k0 k1
    split
    · exact ⟨b1, b2, b3, Or.inr rfl, fun _ q => absurd q (by decide)⟩
    · exact ⟨b1, b2, b3, b4, b5⟩
  · rw [if_neg (by omega)]
    exact a11 k k0 k1
/-- the tries of a frame: it isn't in the queue, and a machine that has it has tried it *)  -/
theorem IvM.s44 {c : Int} {A : AS} (I : IvM c A) {f v : Int} (hq : v ≤ 2 ∨ ((∀ k, 0 ≤ k → k < A 42 0 0 → A 43 k 0 ≠ f) ∧ ∀ m, 0 ≤ m → m < 4 → A 39 m 0 = f → A 41 m 0 = 1)) : IvM c (up A 44 f 0 v) := by
  obtain ⟨a1, a2, a3, a4, a5, a6, a7, a8, a9, a10, a11, a12, a13, a14, a15, a16⟩ := I
  have u : ∀ g, g ≠ 44 → up A 44 f 0 v g = A g := fun g hg => by funext i j; exact up_f hg
  have w : ∀ i, up A 44 f 0 v 44 i 0 = if i = f then v else A 44 i 0 := fun i => by rw [up_at]; simp
  unfold IvM actv
  rw [u 17 (by decide), u 18 (by decide), u 35 (by decide), u 36 (by decide), u 37 (by decide), u 38 (by decide), u 39 (by decide), u 40 (by decide), u 41 (by decide), u 42 (by decide), u 43 (by decide), u 45 (by decide), u 46 (by decide)]
  simp only [w]
  refine ⟨a1, a2, a3, a4, a5, a6, a7, a8, fun k k0 k1 => ?_, a10, a11, a12, a13, a14, fun k k0 k1 => ⟨(a15 k k0 k1).1, ?_, (a15 k k0 k1).2.2⟩, a16⟩
  · obtain ⟨b1, b2, b3, b4, b5⟩ := a9 k k0 k1
    refine ⟨b1, b2, b3, b4, fun q1 q2 => ?_⟩
    split
    · next z =>
      rcases hq with y | ⟨y1, y2⟩
      · exact y
      · have := y2 k k0 k1 z; omega
    · exact b5 q1 q2
  · split
    · next z =>
      rcases hq with y | ⟨y1, y2⟩
      · exact y
      · exact absurd z (y1 k k0 k1)
    · exact (a15 k k0 k1).2.1
theorem IvM.s45 {c : Int} {A : AS} (I : IvM c A) {v : Int} (v0 : 0 ≤ v) (v1 : v ≤ 120 * c) : IvM c (up A 45 0 0 v) := by
  obtain ⟨a1, a2, a3, a4, a5, a6, a7, a8, a9⟩ := I
  have u : ∀ g, g ≠ 45 → up A 45 0 0 v g = A g := fun g hg => by funext i j; exact up_f hg
  unfold IvM actv
  rw [u 17 (by decide), u 18 (by decide), u 35 (by decide), u 36 (by decide), u 37 (by decide), u 38 (by decide), u 39 (by decide), u 40 (by decide), u 41 (by decide), u 42 (by decide), u 43 (by decide), u 44 (by decide), u 46 (by decide), up_s]
  exact ⟨a1, a2, a3, a4, v0, v1, a7, a8, a9⟩
theorem IvM.s46 {c : Int} {A : AS} (I : IvM c A) {v : Int} (v0 : 0 ≤ v) (v1 : v ≤ 120 * c) : IvM c (up A 46 0 0 v) := by
  obtain ⟨a1, a2, a3, a4, a5, a6, a7, a8, a9⟩ := I
  have u : ∀ g, g ≠ 46 → up A 46 0 0 v g = A g := fun g hg => by funext i j; exact up_f hg
  unfold IvM actv
  rw [u 17 (by decide), u 18 (by decide), u 35 (by decide), u 36 (by decide), u 37 (by decide), u 38 (by decide), u 39 (by decide), u 40 (by decide), u 41 (by decide), u 42 (by decide), u 43 (by decide), u 44 (by decide), u 45 (by decide), up_s]
  exact ⟨a1, a2, a3, a4, a5, a6, v0, v1, a9⟩
def enq (A : AS) (f : Int) : AS := up (up A 43 (A 42 0 0) 0 f) 42 0 0 (A 42 0 0 + 1)
theorem enq_f {A : AS} {f : Int} {g : Nat} (h1 : g ≠ 42) (h2 : g ≠ 43) : enq A f g = A g := by
  funext i j; unfold enq; rw [up_f h1, up_f h2]
theorem enq_42 {A : AS} {f : Int} : enq A f 42 0 0 = A 42 0 0 + 1 := up_s
theorem enq_43 {A : AS} {f i : Int} : enq A f 43 i 0 = if i = A 42 0 0 then f else A 43 i 0 := by
  unfold enq; rw [up_f (by decide), up_at]; simp
theorem q_room {c : Int} {A : AS} (I : IvM c A) {f : Int} (hf : 0 ≤ f ∧ f < 80) (hq : ∀ k, 0 ≤ k → k < A 42 0 0 → A 43 k 0 ≠ f) : A 42 0 0 < 80 := by
  obtain ⟨a1, a2, a3, a4, a5, a6, a7, a8, a9, a10, a11, a12, a13, a14, a15, a16⟩ := I
  have := inj_fn 0 80 (A 42 0 0 + 1).toNat (fun i => if (i : Int) < A 42 0 0 then A 43 i 0 else f) (fun i hi => by
    split
    · next z => have := (a15 i (by omega) z).1; exact ⟨this.1, by have := this.2.1; omega⟩
    · exact ⟨hf.1, by omega⟩) (fun i j hij hj => by
    split
    · next z =>
      split
      · next y => exact a16 i j (by omega) (by omega) y
      · exact hq i (by omega) z
    · omega)
  omega
theorem IvM.enq {c : Int} {A : AS} (I : IvM c A) {f : Int} (hf : actv A f) (ht : A 44 f 0 ≤ 2) (hq : ∀ k, 0 ≤ k → k < A 42 0 0 → A 43 k 0 ≠ f) (hm : ∀ m, 0 ≤ m → m < 4 → A 39 m 0 ≠ f) : IvM c (enq A f) := by
  have h80 := q_room I ⟨hf.1, hf.2.1⟩ hq
  obtain ⟨a1, a2, a3, a4, a5, a6, a7, a8, a9, a10, a11, a12, a13, a14, a15, a16⟩ := I
  unfold IvM actv at *
  rw [enq_f (g := 17) (by decide) (by decide), enq_f (g := 18) (by decide) (by decide), enq_f (g := 35) (by decide) (by decide), enq_f (g := 36) (by decide) (by decide), enq_f (g := 37) (by decide) (by decide), enq_f (g := 38) (by decide) (by decide), enq_f (g := 39) (by decide) (by decide), enq_f (g := 40) (by decide) (by decide), enq_f (g := 41) (by decide) (by decide), enq_f (g := 44) (by decide) (by decide), enq_f (g := 45) (by decide) (by decide), enq_f (g := 46) (by decide) (by decide), enq_42]
  simp only [enq_43]
  refine ⟨a1, a2, a3, a4, a5, a6, a7, a8, a9, a10, a11, a12, by omega, by omega, fun k k0 k1 => ?_, fun k k' k0 k1 k2 => ?_⟩
  · by_cases z : k = A 42 0 0
    · simp only [z, if_true]; exact ⟨hf, ht, fun m m0 m1 => hm m m0 m1⟩
    · simp only [z, if_false]; exact a15 k k0 (by omega)
  · rw [if_neg (by omega)]
    by_cases z : k' = A 42 0 0
    · rw [if_pos z]; exact hq k k0 (by omega)
    · rw [if_neg z]; exact a16 k k' k0 k1 (by omega)
/-- a machine takes the first frame of the queue -/
def tkn (A : AS) (m x : Int) : AS := fun g i j => match g with
  | 39 => if i = m ∧ j = 0 then A 43 0 0 else A 39 i j
  | 40 => if i = m ∧ j = 0 then x else A 40 i j
  | 41 => if i = m ∧ j = 0 then 0 else A 41 i j
  | 42 => if i = 0 ∧ j = 0 then A 42 0 0 - 1 else A 42 i j
  | 43 => if j = 0 then A 43 (i + 1) 0 else A 43 i j
  | g => A g i j
theorem tkn_f {A : AS} {m x : Int} {g : Nat} (h : g ∉ [39, 40, 41, 42, 43]) : tkn A m x g = A g := by
  funext i j
  simp only [List.mem_cons, List.not_mem_nil, or_false, not_or] at h
  obtain ⟨h1, h2, h3, h4, h5⟩ := h
  unfold tkn
  split <;> first | (exfalso; omega) | rfl
theorem IvM.take {c : Int} {A : AS} (I : IvM c A) {m x : Int} (m0 : 0 ≤ m) (m1 : m < A 36 0 0) (hm : A 39 m 0 = -1) (hq : 0 < A 42 0 0) (x0 : 0 ≤ x) (x1 : x ≤ 5) : IvM c (tkn A m x) := by
  obtain ⟨a1, a2, a3, a4, a5, a6, a7, a8, a9, a10, a11, a12, a13, a14, a15, a16⟩ := I
  have w39 : ∀ i, tkn A m x 39 i 0 = if i = m then A 43 0 0 else A 39 i 0 := fun i => by show (if i = m ∧ (0 : Int) = 0 then A 43 0 0 else A 39 i 0) = _; simp
  have w40 : ∀ i, tkn A m x 40 i 0 = if i = m then x else A 40 i 0 := fun i => by show (if i = m ∧ (0 : Int) = 0 then x else A 40 i 0) = _; simp
  have w41 : ∀ i, tkn A m x 41 i 0 = if i = m then 0 else A 41 i 0 := fun i => by show (if i = m ∧ (0 : Int) = 0 then 0 else A 41 i 0) = _; simp
  have w42 : tkn A m x 42 0 0 = A 42 0 0 - 1 := by show (if (0 : Int) = 0 ∧ (0 : Int) = 0 then A 42 0 0 - 1 else A 42 0 0) = _; simp
  have w43 : ∀ i, tkn A m x 43 i 0 = A 43 (i + 1) 0 := fun i => by show (if (0 : Int) = 0 then A 43 (i + 1) 0 else A 43 i 0) = _; simp
  have q0 := a15 0 (by omega) hq
  unfold IvM actv at *
  rw [tkn_f (g := 17) (by decide), tkn_f (g := 18) (by decide), tkn_f (g := 35) (by decide), tkn_f (g := 36) (by decide), tkn_f (g := 37) (by decide), tkn_f (g := 38) (by decide), tkn_f (g := 44) (by decide), tkn_f (g := 45) (by decide), tkn_f (g := 46) (by decide), w42]
  simp only [w39, w40, w41, w43]
  refine ⟨a1, a2, a3, a4, a5, a6, a7, a8, fun k k0 k1 => ?_, a10, fun k k0 k1 => ?_, fun k k' k0 k1 k2 => ?_, by omega, by omega, fun k k0 k1 => ⟨(a15 (k + 1) (by omega) (by omega)).1, (a15 (k + 1) (by omega) (by omega)).2.1, fun i i0 i1 => ?_⟩, fun k k' k0 k1 k2 => a16 _ _ (by omega) (by omega) (by omega)⟩
  · by_cases z : k = m
    · simp only [z, if_true]
      exact ⟨Or.inr q0.1, x0, x1, Or.inl trivial, fun _ _ => q0.2.1⟩
    · simp only [z, if_false]; exact a9 k k0 k1
  · rw [if_neg (by omega), if_neg (by omega), if_neg (by omega)]
    exact a11 k k0 k1
  · by_cases z : k = m
    · rw [if_pos z, if_neg (by omega)]
      intro q
      exact absurd q.symm (q0.2.2 k' (by omega) k2)
    · rw [if_neg z]
      by_cases y : k' = m
      · rw [if_pos y]
        intro q
        exact absurd q (q0.2.2 k k0 (by omega))
      · rw [if_neg y]; exact a12 k k' k0 k1 k2
  · by_cases z : i = m
    · rw [if_pos z]; exact a16 0 (k + 1) (by omega) (by omega) (by omega)
    · rw [if_neg z]; exact (a15 (k + 1) (by omega) (by omega)).2.2 i i0 i1
-- their cells
theorem RM.enq {A : AS} {h : Mh} (R : RM A h) {f : Int} (h0 : 0 ≤ A 42 0 0) : RM (enq A f) (setI (setI h 1043 (A 42 0 0) f) 3 42 (A 42 0 0 + 1)) := by
  refine R.gen [42, 43] ((Sm.rfl'.set (by simp)).set (Or.inl rfl)) (fun g hg => ?_) (fun g hg => ?_) (fun g hg _ => enq_f (fun q => hg (by simp [q])) (fun q => hg (by simp [q]))) (fun g hg hw => ?_) ?_ ?_ ?_ ?_
  · by_cases z : g = 42
    · subst z; rw [Mi_setI, if_pos ⟨rfl, rfl⟩, enq_42]
    · have z3 : g ≠ 43 := fun q => by rw [q] at hg; cases hg
      rw [Mi_setI, if_neg (fun q => z (by omega)), Mi_setI, if_neg (by omega), enq_f z z3]
      exact R.2.1 g hg
  · simp only [List.mem_cons, List.not_mem_nil, or_false, not_or] at hg
    funext k
    rw [Mi_setI, if_neg (by omega), Mi_setI, if_neg (by omega)]
  · simp only [List.mem_cons, List.not_mem_nil, or_false] at hg
    rcases hg with q | q <;> subst q <;> exact absurd rfl hw
  · intro k k0 k1
    rw [enq_42] at k1
    rw [Mi_setI, if_neg (by omega), Mi_setI, enq_43]
    by_cases z : k = A 42 0 0
    · rw [if_pos ⟨rfl, z⟩, if_pos z]
    · rw [if_neg (fun q => z q.2), if_neg z]; exact R.2.2.2.1 k k0 (by omega)
  · exact RMk.of R.2.2.2.2.1 (enq_f (by decide) (by decide)) (enq_f (by decide) (by decide)) (enq_f (by decide) (by decide)) (by funext k; simp [Mi_setI]) (by funext k; simp [Mi_setI]) (by funext k; simp [Mi_setI])
  · exact RMt.of R.2.2.2.2.2.1 (enq_f (by decide) (by decide)) (enq_f (by decide) (by decide)) (by funext k; simp [Mi_setI])
  · exact RMc.of R.2.2.2.2.2.2 (enq_f (by decide) (by decide)) (enq_f (by decide) (by decide)) (by funext k; simp [Mi_setI]) (by simp [Mi_setI])
