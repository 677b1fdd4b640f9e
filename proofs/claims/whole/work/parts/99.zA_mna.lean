-- an array of N new rows: the outer name n, the rows' names b .. b+N-1
def mnh (h : Mh) (n b : Nat) (k : Int) (N : Nat) : Mh :=
  (fun m => if m = n then 24 else if b ≤ m ∧ m < b + N then 21 else h.1 m,
   fun m => if m = n then (N : Int) else if b ≤ m ∧ m < b + N then k else h.2.1 m,
   fun m j => if m = n then 0 else if b ≤ m ∧ m < b + N then 0 else h.2.2.1 m j,
   fun m j => if m = n then (if 0 ≤ j ∧ j < (N : Int) then some (b + j.toNat) else none) else if b ≤ m ∧ m < b + N then none else h.2.2.2 m j)
theorem Kd_mnh (h : Mh) (n b : Nat) (k : Int) (N m : Nat) : Kd (mnh h n b k N) m = if m = n then 24 else if b ≤ m ∧ m < b + N then 21 else Kd h m := rfl
theorem Ln_mnh (h : Mh) (n b : Nat) (k : Int) (N m : Nat) : Ln (mnh h n b k N) m = if m = n then (N : Int) else if b ≤ m ∧ m < b + N then k else Ln h m := rfl
theorem Mi_mnh (h : Mh) (n b : Nat) (k : Int) (N m : Nat) (j : Int) : Mi (mnh h n b k N) m j = if m = n then 0 else if b ≤ m ∧ m < b + N then 0 else Mi h m j := rfl
theorem Mr_mnh (h : Mh) (n b : Nat) (k : Int) (N m : Nat) (j : Int) : Mr (mnh h n b k N) m j = if m = n then (if 0 ≤ j ∧ j < (N : Int) then some (b + j.toNat) else none) else if b ≤ m ∧ m < b + N then none else Mr h m j := rfl
def o_mna (q : Pd) : Pd := fun L S h c s => match S with
  | .inl k :: .inl len :: S' => 0 ≤ len ∧ len ≤ 1000 ∧ 0 ≤ k ∧ k ≤ 100000 ∧ 1 + len.toNat ≤ c ∧ len.toNat + len.toNat * k.toNat ≤ s ∧ ∃ n b, n ≠ 0 ∧ b ≠ 0 ∧ Kd h n = 0 ∧ (∀ i, i < len.toNat → Kd h (b + i) = 0) ∧ (n < b ∨ b + len.toNat ≤ n) ∧
      q L (pR (some n) :: S') (mnh h n b k len.toNat) (c - (1 + len.toNat)) (s - (len.toNat + len.toNat * k.toNat))
  | _ => False
theorem mnh_rep {D : va_G} {cA : Nat → ClassId} {ad : Nat → Nat} {h : Mh} {H H1 : Heap} {A : Nat → Prop} {U : State} {n b N : Nat} {k : Int} {c9 cy : ClassId} {q : Nat} {r : Nat → Nat} (hR : Rep D cA ad h H A U) (h0 : n ≠ 0) (hb0 : b ≠ 0) (hn : Kd h n = 0) (hb : ∀ i, i < N → Kd h (b + i) = 0) (hnb : n < b ∨ b + N ≤ n) (hk : 0 ≤ k ∧ k < 2147483648) (hN : N < 1001)
    {dom : List Nat} (h1 : dom.Nodup) (h2 : ∀ n, n ∈ dom ↔ Kd h n ≠ 0) (hc9 : ArrOfT U c9 (.array .int) ∧ va_RA U c9 (.array .int)) (hcy : ArrOfT U cy .int ∧ va_RA U cy .int)
    (hP1 : va_P D vwCl ((wsO cA ad h dom ++ [(q, .inl (c9, N, .inr (.inr (.inr (.inr (fun i => if i < N then some (r i) else none))))))]) ++ (List.range N).map (fun i => (r i, .inl (cy, k.toNat, .inl (fun _ => 0))))) H1)
    (hD1 : va_D A ((wsO cA ad h dom ++ [(q, .inl (c9, N, .inr (.inr (.inr (.inr (fun i => if i < N then some (r i) else none))))))]) ++ (List.range N).map (fun i => (r i, .inl (cy, k.toNat, .inl (fun _ => 0)))))) :
    Rep D (fun m => if m = n then c9 else if b ≤ m ∧ m < b + N then cy else cA m) (fun m => if m = n then q else if b ≤ m ∧ m < b + N then r (m - b) else ad m) (mnh h n b k N) H1 A U ∧ ∀ m, dmh h m → dmh (mnh h n b k N) m ∧ (if m = n then q else if b ≤ m ∧ m < b + N then r (m - b) else ad m) = ad m := by
  have hne : ∀ m, Kd h m ≠ 0 → m ≠ n ∧ ¬ (b ≤ m ∧ m < b + N) := fun m hm => ⟨fun q9 => hm (by rw [q9]; exact hn), fun q9 => hm (by have := hb (m - b) (by omega); rw [show b + (m - b) = m by omega] at this; exact this)⟩
  have hcl := hR.2.2.2.2.2.1
  have e5 : ∀ m, Kd h m ≠ 0 → cel (fun m => if m = n then c9 else if b ≤ m ∧ m < b + N then cy else cA m) (fun m => if m = n then q else if b ≤ m ∧ m < b + N then r (m - b) else ad m) (mnh h n b k N) m = cel cA ad h m := by
    intro m hm9
    obtain ⟨hm, hmb⟩ := hne m hm9
    have r1 : ∀ j, (Mr h m j).map (fun m => if m = n then q else if b ≤ m ∧ m < b + N then r (m - b) else ad m) = (Mr h m j).map ad := by
      intro j
      cases hx : Mr h m j with
      | none => rfl
      | some y => obtain ⟨y1, y2⟩ := hne y (hcl m j y hx); simp only [Option.map_some, if_neg y1, if_neg y2]
    have i1 : Kd (mnh h n b k N) m = Kd h m := by rw [Kd_mnh, if_neg hm, if_neg hmb]
    have i2 : Ln (mnh h n b k N) m = Ln h m := by rw [Ln_mnh, if_neg hm, if_neg hmb]
    have i3 : ∀ j, Mi (mnh h n b k N) m j = Mi h m j := fun j => by rw [Mi_mnh, if_neg hm, if_neg hmb]
    have i4 : ∀ j, Mr (mnh h n b k N) m j = Mr h m j := fun j => by rw [Mr_mnh, if_neg hm, if_neg hmb]
    have f1 : ∀ c, fvl (fun m => if m = n then q else if b ≤ m ∧ m < b + N then r (m - b) else ad m) (mnh h n b k N) c m = fvl ad h c m := fun c => by funext j; unfold fvl; rw [i3, i4, r1]
    have f2 : ael (fun m => if m = n then q else if b ≤ m ∧ m < b + N then r (m - b) else ad m) (mnh h n b k N) m = ael ad h m := by unfold ael; simp only [i1, i2, i3, i4, r1]
    unfold cel
    rw [i1, f1, f2, show ((fun m => if m = n then c9 else if b ≤ m ∧ m < b + N then cy else cA m) m) = cA m from by show (if m = n then c9 else if b ≤ m ∧ m < b + N then cy else cA m) = cA m; rw [if_neg hm, if_neg hmb]]
  have eo : cel (fun m => if m = n then c9 else if b ≤ m ∧ m < b + N then cy else cA m) (fun m => if m = n then q else if b ≤ m ∧ m < b + N then r (m - b) else ad m) (mnh h n b k N) n = .inl (c9, N, .inr (.inr (.inr (.inr (fun i => if i < N then some (r i) else none))))) := by
    have ek : Kd (mnh h n b k N) n = 24 := by rw [Kd_mnh, if_pos rfl]
    rw [cel_arr (by rw [ek]; omega), ael_r (by rw [ek]; omega), Ln_mnh, if_pos rfl]
    simp only [if_pos]
    congr 7
    funext i
    rw [Mr_mnh, if_pos rfl]
    by_cases hi : i < N
    · rw [if_pos (by omega), if_pos hi]
      show some (if b + (i : Int).toNat = n then q else if b ≤ b + (i : Int).toNat ∧ b + (i : Int).toNat < b + N then r (b + (i : Int).toNat - b) else ad (b + (i : Int).toNat)) = some (r i)
      rw [if_neg (by omega), if_pos (by omega), show b + (i : Int).toNat - b = i by omega]
    · rw [if_neg (by omega), if_neg hi]; rfl
  have ei : ∀ i, i < N → cel (fun m => if m = n then c9 else if b ≤ m ∧ m < b + N then cy else cA m) (fun m => if m = n then q else if b ≤ m ∧ m < b + N then r (m - b) else ad m) (mnh h n b k N) (b + i) = .inl (cy, k.toNat, .inl (fun _ => 0)) := by
    intro i hi
    have q1 : ¬ b + i = n := by omega
    have q2 : b ≤ b + i ∧ b + i < b + N := by omega
    have ek : Kd (mnh h n b k N) (b + i) = 21 := by rw [Kd_mnh, if_neg q1, if_pos q2]
    rw [cel_arr (by rw [ek]; omega), ael_i (by rw [ek]; omega), Ln_mnh, if_neg q1, if_pos q2]
    simp only [if_neg q1, if_pos q2, Mi_mnh]
    rfl
  have ew : wsO (fun m => if m = n then c9 else if b ≤ m ∧ m < b + N then cy else cA m) (fun m => if m = n then q else if b ≤ m ∧ m < b + N then r (m - b) else ad m) (mnh h n b k N) ((dom ++ [n]) ++ (List.range N).map (fun i => b + i)) = (wsO cA ad h dom ++ [(q, .inl (c9, N, .inr (.inr (.inr (.inr (fun i => if i < N then some (r i) else none))))))]) ++ (List.range N).map (fun i => (r i, .inl (cy, k.toNat, .inl (fun _ => 0)))) := by
    unfold wsO
    rw [List.map_append, List.map_append]
    congr 1
    · congr 1
      · apply List.map_congr_left
        intro m hm
        have hm2 := (h2 m).mp hm
        obtain ⟨y1, y2⟩ := hne m hm2
        rw [e5 m hm2]
        simp only [if_neg y1, if_neg y2]
      · simp only [List.map_cons, List.map_nil]
        rw [eo, if_pos trivial]
    · rw [List.map_map]
      apply List.map_congr_left
      intro i hi
      have hi2 := List.mem_range.mp hi
      show ((if b + i = n then q else if b ≤ b + i ∧ b + i < b + N then r (b + i - b) else ad (b + i)), cel (fun m => if m = n then c9 else if b ≤ m ∧ m < b + N then cy else cA m) (fun m => if m = n then q else if b ≤ m ∧ m < b + N then r (m - b) else ad m) (mnh h n b k N) (b + i)) = _
      rw [ei i hi2, if_neg (by omega), if_pos (by omega), show b + i - b = i by omega]
  refine ⟨⟨⟨(dom ++ [n]) ++ (List.range N).map (fun i => b + i), ?_, ?_, by rw [ew]; exact hP1, by rw [ew]; exact hD1⟩, ?_, ?_, ?_, ?_, ?_, ?_⟩, ?_⟩
  · rw [List.nodup_append, List.nodup_append]
    refine ⟨⟨h1, by simp, fun a ha b9 hb9 => ?_⟩, ?_, fun a ha b9 hb9 => ?_⟩
    · rw [List.mem_singleton.mp hb9]
      exact (hne a ((h2 a).mp ha)).1
    · exact List.pairwise_map.mpr (List.nodup_range.imp (fun {x y} z q9 => z (by omega)))
    · obtain ⟨i, hi, rfl⟩ := List.mem_map.mp hb9
      have hi2 := List.mem_range.mp hi
      rcases List.mem_append.mp ha with z | z
      · have := (hne a ((h2 a).mp z)).2
        omega
      · rw [List.mem_singleton.mp z]; omega
  · intro m
    rw [List.mem_append, List.mem_append, List.mem_singleton, h2 m, Kd_mnh, List.mem_map]
    by_cases hm : m = n
    · rw [if_pos hm]; exact ⟨fun _ => by omega, fun _ => Or.inl (Or.inr hm)⟩
    · rw [if_neg hm]
      by_cases hm2 : b ≤ m ∧ m < b + N
      · rw [if_pos hm2]; exact ⟨fun _ => by omega, fun _ => Or.inr ⟨m - b, List.mem_range.mpr (by omega), by omega⟩⟩
      · rw [if_neg hm2]
        refine ⟨fun q9 => ?_, fun z => Or.inl (Or.inl z)⟩
        rcases q9 with (z | z) | ⟨i, hi, z⟩
        · exact z
        · exact absurd z hm
        · have := List.mem_range.mp hi
          exact absurd (show b ≤ m ∧ m < b + N by omega) hm2
  · intro m hm
    rw [Kd_mnh] at hm ⊢
    by_cases hmn : m = n
    · rw [if_pos hmn] at hm ⊢
      simp only [if_pos hmn]
      exact hc9
    · by_cases hm2 : b ≤ m ∧ m < b + N
      · rw [if_neg hmn, if_pos hm2] at hm ⊢
        simp only [if_neg hmn, if_pos hm2]
        exact hcy
      · rw [if_neg hmn, if_neg hm2] at hm ⊢
        simp only [if_neg hmn, if_neg hm2]
        exact hR.2.1 m hm
  · intro m i
    rw [Mi_mnh]
    split
    · exact ⟨by decide, by decide⟩
    · split
      · exact ⟨by decide, by decide⟩
      · exact hR.2.2.1 m i
  · intro m
    rw [Ln_mnh]
    split
    · omega
    · split
      · exact hk
      · exact hR.2.2.2.1 m
  · intro m
    rw [Kd_mnh]
    split
    · omega
    · split
      · omega
      · exact hR.2.2.2.2.1 m
  · intro m j m' hm'
    rw [Mr_mnh] at hm'
    rw [Kd_mnh]
    split at hm'
    · split at hm'
      · have := Option.some.inj hm'
        rw [if_neg (by omega), if_pos (by omega)]; omega
      · cases hm'
    · split at hm'
      · cases hm'
      · obtain ⟨y1, y2⟩ := hne m' (hcl m j m' hm')
        rw [if_neg y1, if_neg y2]
        exact hcl m j m' hm'
  · rw [Kd_mnh, if_neg (fun q9 => h0 q9.symm), if_neg (by omega)]
    exact hR.2.2.2.2.2.2
  · intro m hm
    have hmn : m ≠ n ∧ ¬ (b ≤ m ∧ m < b + N) := hm.elim (fun z => by rw [z]; exact ⟨fun q9 => h0 q9.symm, by omega⟩) (hne m)
    refine ⟨?_, by rw [if_neg hmn.1, if_neg hmn.2]⟩
    unfold dmh at hm ⊢
    rw [Kd_mnh, if_neg hmn.1, if_neg hmn.2]
    exact hm
theorem s_mna {K : MKey} {d : Nat} {X : Option (Nat × (Nat → Int))} {P : Out → Mh → Prop} {pc : Nat} {q : Pd} {idx : Nat} (i1 i2 : Nat) (w1 : lw_tbl[i1]? = some (.classLink (kY K).cls idx "[[I")) (w2 : lw_tbl[i2]? = some (.arrayClass .int))
    (hd : decode (kB K) pc = .ok (.multianewarray idx 2, 4)) (hq : Imp q (Ru K d X P (pc + 4))) : Imp (o_mna q) (Ru K d X P pc) := by
  intro L S h c sl hh l p e R s m args below meth cd D A ad0 dm0 C ad cA H locs ls cells slots hR hS he hL hSk hc hs
  obtain ⟨cx, cb, cr, cml, cown, cts, clk, cnm, cet, cK, cst, cfr, clo, cce, csl, cA9, cXs⟩ := id C
  unfold o_mna at hh
  split at hh
  next k len S' =>
    obtain ⟨l0, l1, k0, k1, hc1, hs1, n, b, hn0, hb0, hn, hb, hnb, hh⟩ := hh
    obtain ⟨⟨dom, h1, h2, hP, hD⟩, -⟩ := id hR
    have ecl : (Int32.ofInt len).toNatClampNeg = len.toNat := i32_cl l0 (by omega)
    have ekl : (Int32.ofInt k).toNatClampNeg = k.toNat := i32_cl k0 (by omega)
    have hneg : ¬ Int32.ofInt len < 0 := fun z => by
      have := (i32_lt (x := len) (y := 0) ⟨by omega, by omega⟩ ⟨by decide, by decide⟩).mp z
      omega
    have hnek : ¬ Int32.ofInt k < 0 := fun z => by
      have := (i32_lt (x := k) (y := 0) ⟨by omega, by omega⟩ ⟨by decide, by decide⟩).mp z
      omega
    have harr : (Cond.arrayClass .int).before args s = true := ugw cts i2 w2 rfl
    obtain ⟨cy, kA, comp, y1, y2, y3⟩ := Cond.arrayClass_spec (show (Cond.arrayClass .int).holds args s none s [] = true from harr)
    have hcy : ArrOfT s cy .int ∧ va_RA s cy .int := ⟨fun _ _ => ⟨fun _ h9 => (by cases h9), kA, y2, comp, y3⟩, y1⟩
    refine va_mna (X := wsO cA ad h dom) (L := []) (f := fun _ => .inl (0, 0, .inl (fun _ => 0))) (own := (kY K).cls) (ty := .int) (cy := cy) (N' := len.toNat) (K' := k.toNat) (z := (k.toNat, .inl (fun _ => 0))) cx cb cown (ugw cts i1 w1 rfl) cK.2.2.2.2.1 harr y1 cK.1 (by show va_P D vwCl (wsO cA ad h dom ++ []) H; rw [List.append_nil]; exact hP) (by show va_D A (wsO cA ad h dom ++ []); rw [List.append_nil]; exact hD) hS cA9 hneg hnek ecl ekl (by omega) (by show k.toNat * 4 ≤ _; omega) (by omega) rfl rfl (by omega) (by omega) (fun c9 => by show ({ cls := c9, slots := Array.replicate k.toNat (.int 0), vm := .none } : Cell) = _; rw [arrV_new]; rfl) hd (fun qa r c9 H1 hri _ hK1 hP1 hD1 hS1 => ?_)
    have hk9 := hK1.2 0 (c9, .array .int) rfl
    have epl : va_pl ([] ++ (List.range len.toNat).map r) (vr_up (fun _ => .inl (0, 0, .inl (fun _ => 0))) ((List.range len.toNat).map r) (.inl (cy, (k.toNat, .inl (fun _ => 0))))) = (List.range len.toNat).map (fun i => (r i, .inl (cy, k.toNat, .inl (fun _ => 0)))) := by
      unfold va_pl
      rw [List.nil_append, List.map_map]
      apply List.map_congr_left
      intro i hi
      show (r i, vr_up _ _ _ (r i)) = _
      rw [vr_up_in (List.mem_map.mpr ⟨i, hi, rfl⟩)]
    rw [epl] at hP1 hD1
    obtain ⟨r1, r2⟩ := mnh_rep (k := k) hR hn0 hb0 hn hb hnb ⟨by omega, by omega⟩ (by omega) h1 h2 hk9 hcy hP1 hD1
    have hSk2 := (show Sok h S' from sok_tl (sok_tl hSk)).moved r2
    have K9 := hq L (pR (some n) :: S') (mnh h n b k len.toNat) (c - (1 + len.toNat)) (sl - (len.toNat + len.toNat * k.toNat)) hh l p e R s m args below meth cd D A ad0 dm0 C _ _ H1 locs ls (cells + 1 + len.toNat) (slots + len.toNat + len.toNat * k.toNat) r1 hS1
      (fun m hm => ⟨(r2 m (he m hm).1).1, (r2 m (he m hm).1).2.trans (he m hm).2⟩) (hL.moved r2) (sok_cons (fun m em => by cases em; exact Or.inr (by rw [Kd_mnh, if_pos rfl]; omega)) hSk2.1) (by omega) (by omega)
    rw [List.map_cons, hSk2.2, show tv (fun m => if m = n then qa else if b ≤ m ∧ m < b + len.toNat then r (m - b) else ad m) (pR (some n)) = .ref qa from by simp [tv, va_rf]] at K9
    exact K9
  next => exact hh.elim
