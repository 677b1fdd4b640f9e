theorem ksum_A0 {s : Int} : ksum A0 s = 0 := by
  have z : ∀ n : Nat, sm (fun _ => (0 : Int)) n = 0 := fun n => by
    induction n with
    | zero => rfl
    | succ n ih => simp only [sm]; omega
  have e : (fun i : Int => sm (fun l : Int => A0 24 (16 * s + i) l) 16) = fun _ => 0 := by
    funext i
    exact z 16
  unfold ksum
  rw [e]
  exact z 16
theorem Inv_A0 : Inv 0 A0 := by
  have nv : ∀ v, ¬ exv A0 v := fun v hv => by have q9 : v / 6 < 0 := hv.2.1; have := hv.1; omega
  have no : ∀ {x : Int}, 0 ≤ x → ¬ x < A0 1 0 0 := fun {x} p q => by have : x < 0 := q; omega
  refine ⟨?_, ?_, ?_, ?_, ?_, ?_, ?_, ?_, ?_, ?_⟩
  · refine ⟨by first | decide | simp [A0], by first | decide | simp [A0], fun a _ _ => ⟨by first | decide | simp [A0], by first | decide | simp [A0]⟩, fun a _ _ => rfl, fun v h => absurd h (nv v), fun v i h => absurd h (nv v), fun v i h => absurd h (nv v), fun v _ _ => ⟨by first | decide | simp [A0], by first | decide | simp [A0], Or.inl rfl, Or.inl rfl⟩, fun v _ _ _ => ⟨rfl, rfl, rfl⟩, fun v i _ _ _ _ => ⟨by first | decide | simp [A0], by first | decide | simp [A0]⟩⟩
  · exact ⟨by first | decide | simp [A0], by first | decide | simp [A0], by first | decide | simp [A0], by first | decide | simp [A0], by first | decide | simp [A0], by first | decide | simp [A0], fun i p q => absurd q (no p), fun i p q => absurd q (no p)⟩
  · refine ⟨by first | decide | simp [A0], by first | decide | simp [A0], fun s _ _ => ⟨by first | decide | simp [A0], by first | decide | simp [A0], by first | decide | simp [A0], by first | decide | simp [A0], by first | decide | simp [A0], by first | decide | simp [A0], by first | decide | simp [A0], by first | decide | simp [A0], by first | decide | simp [A0], by first | decide | simp [A0], by first | decide | simp [A0], by first | decide | simp [A0], by first | decide | simp [A0], by first | decide | simp [A0], Or.inl rfl⟩, fun s p q => absurd q (no p), fun s _ _ => ⟨rfl, rfl, rfl, rfl, rfl, rfl, rfl⟩, fun s p _ _ p0 q => absurd q (no p0), fun s p p' _ _ p0 p1 q => absurd q (no (by omega)), fun s k _ _ _ _ => Or.inl rfl, fun s k _ _ _ _ => rfl, fun f l _ _ _ _ => ⟨Or.inl rfl, by first | decide | simp [A0], by first | decide | simp [A0]⟩⟩
  · exact fun f _ _ => ⟨by first | decide | simp [A0], by first | decide | simp [A0], by first | decide | simp [A0], by first | decide | simp [A0], fun q => absurd rfl q, by first | decide | simp [A0], by first | decide | simp [A0]⟩
  · refine ⟨by first | decide | simp [A0], by first | decide | simp [A0], by first | decide | simp [A0], by first | decide | simp [A0], by first | decide | simp [A0], by first | decide | simp [A0], by first | decide | simp [A0], by first | decide | simp [A0], fun m _ _ => ⟨Or.inl rfl, by first | decide | simp [A0], by first | decide | simp [A0], Or.inl rfl, fun q => absurd rfl q⟩, fun m p q => absurd q (no p), fun m _ _ => ⟨rfl, rfl, rfl⟩, fun m m' _ _ _ _ => rfl, by first | decide | simp [A0], by first | decide | simp [A0], fun k p q => absurd q (no p), fun k k' p p1 q => absurd q (no (by omega))⟩
  · exact ⟨by first | decide | simp [A0], by first | decide | simp [A0], fun k p q => absurd q (no p), by first | decide | simp [A0], by first | decide | simp [A0], fun k p q => absurd q (no p)⟩
  · exact ⟨⟨by first | decide | simp [A0], by first | decide | simp [A0], fun k p q => absurd q (no p)⟩, by first | decide | simp [A0], by first | decide | simp [A0], by first | decide | simp [A0], by first | decide | simp [A0]⟩
  · refine ⟨by first | decide | simp [A0], by first | decide | simp [A0], fun v h => absurd h (nv v), fun j p q => absurd q (no p), fun v i h => absurd h (nv v), fun s p _ _ p0 p1 => ⟨p0, p1⟩, fun s p p' _ _ p0 p1 p2 e => by have : p = p' := e; omega, fun s p _ _ p0 q => absurd q (no p0)⟩
  · exact fun f _ _ q => absurd rfl q
  · exact fun s _ _ => ksum_A0
