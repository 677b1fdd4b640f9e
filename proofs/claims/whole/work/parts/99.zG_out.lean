-- the long array of the law is nobody's
theorem RM.tt {A : AS} {h h' : Mh} (R : RM A h) (t : ∀ n, n = 3 ∨ (1000 ≤ n ∧ n < 1066) → Sam h h' n) : RM A h' := by
  have i3 := (t 3 (Or.inl rfl)).2.2.1
  have mk : ∀ k, mKd k ≠ 0 → k < 66 := by
    intro k hk
    unfold mKd at hk
    split at hk <;> first | decide | exact absurd rfl hk
  obtain ⟨W, r1, r2, r3, r4, r5, r6⟩ := R
  refine ⟨⟨by rw [(t 3 (Or.inl rfl)).1]; exact W.1, fun k hk => ?_⟩, fun f hf => by rw [i3]; exact r1 f hf, fun f hf i j i0 j0 j1 j2 => ?_, RMq.of r3 rfl rfl (t 1043 (by omega)).2.2.1, RMk.of r4 rfl rfl rfl (t 1024 (by omega)).2.2.1 (t 1025 (by omega)).2.2.1 (t 1026 (by omega)).2.2.1, RMt.of r5 rfl rfl (t 1019 (by omega)).2.2.1, RMc.of r6 rfl rfl (t 1056 (by omega)).2.2.1 (by rw [i3])⟩
  · have := mk k hk
    rw [(t 3 (Or.inl rfl)).2.2.2, (t (1000 + k) (by omega)).1, (t (1000 + k) (by omega)).2.1]
    exact W.2 k hk
  · have := pw_lt (f := f) (by omega)
    rw [(t (1000 + f) (by omega)).2.2.1]
    exact r2 f hf i j i0 j0 j1 j2
theorem RM.out {A : AS} {h : Mh} {v : Int} (R : RM A h) : RM A (setI h 4 0 v) := R.tt (fun n hn => Sam.rfl'.setI (by omega))
theorem RC.out {A : AS} {h : Mh} {v : Int} (R : RC A h) (T : Stx A) : RC A (setI h 4 0 v) := by
  obtain ⟨V9, D9, a16, a36, a47, a51, G9⟩ := T
  have s9 : ∀ n, n ≠ 4 → Sam h (setI h 4 0 v) n := fun n hn => Sam.rfl'.setI hn
  have E9 : ∀ L : List Nat, (∀ f, f ∈ ([] : List Nat) → f ∉ L) → ∀ g, g ∈ L → A g = A g := fun _ _ _ _ => rfl
  exact ⟨R.1.of (E9 _ (by decide)) (fun n hn => s9 n (by omega)), R.xa.of (E9 _ (by decide)) (fun n n0 n1 => s9 n (by omega)), R.xv.of V9 D9 G9 (E9 _ (by decide)) (fun n n0 n1 => s9 n (by omega)), R.xs.of a16 (E9 _ (by decide)) (fun n n0 n1 => s9 n (by omega)), R.xo.of2 a16 (E9 [16] (by decide) 16 (by decide)) (fun n t c t0 t1 c0 c1 n0 n1 => s9 n (by unfold cN at n0 n1; omega)), R.xk.of2 a16 G9 (E9 _ (by decide)) (fun n t c t0 t1 c0 c1 n0 n1 => s9 n (by unfold cN at n0 n1; omega)), R.xt.of2 a16 G9 (E9 _ (by decide)) (fun n t c t0 t1 c0 c1 n0 n1 => s9 n (by unfold cN at n0 n1; omega)), R.xi.of2 a16 G9 (E9 _ (by decide)) (fun n t c t0 t1 c0 c1 n0 n1 => s9 n (by unfold cN at n0 n1; omega)), R.xm.of a36 (E9 _ (by decide)) (fun n hn => ⟨(s9 n (by omega)).1, (s9 n (by omega)).2.1, fun k _ => congrFun (s9 n (by omega)).2.2.1 k, (s9 n (by omega)).2.2.2⟩), R.xu.of (E9 [32] (by decide) 32 (by decide)) (E9 [33] (by decide) 33 (by decide)) (congrFun (s9 16 (by omega)).2.2.1 5), R.xc.of (E9 _ (by decide)) (fun n hn => s9 n (by omega)) (fun n n0 n1 => ⟨(s9 n (by omega)).1, (s9 n (by omega)).2.1⟩), R.xn.of a47 (E9 _ (by decide)) (fun n n0 n1 => s9 n (by omega)), R.xd.of a51 (E9 _ (by decide)) (fun n n0 n1 => s9 n (by omega))⟩
